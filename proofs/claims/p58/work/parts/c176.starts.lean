/-! ===== the start ===== -/
section STA
variable {S : tq_H} {c c' : tc_C} {i k z : Nat}
/-- the model is told its first node -/
theorem r_start (hM : tc_Mod S z) (h1 : c.1 163 = fun _ => 0) (h2 : c.1 157 = fun _ => 0) :
    ∃ c', rest11 155 (tc_mk S c) = some (tc_mk S c') ∧ RTree c' D0 1 ∧ ROrd c' D0 ∧ c'.1 162 0 = 16 ∧ (∀ t, t < 6 → c'.1 183 t = -1 ∧ c'.1 186 t = 1) ∧ (∀ a, a < 156 ∨ (166 < a ∧ a ≠ 183 ∧ a ≠ 186) → c'.1 a = c.1 a) ∧ c'.2.1 = c.2.1 ∧ (∀ q k, q ≠ 155 ∨ (k ≠ 1 ∧ k ≠ 11) → c'.2.2.1 q k = c.2.2.1 q k) ∧ c'.2.2.2.1 = c.2.2.2.1 ∧ c'.2.2.2.2 = c.2.2.2.2 := by
  obtain ⟨c1, e1⟩ : ∃ c1, c1 = tc_I (tc_I (tc_I (tc_I (tc_I (tc_I (tc_F c 155 1 1) 163 (upd (c.1 163) 0 1)) 156 (upd (c.1 156) 0 0)) 158 (upd (c.1 158) 0 (-1))) 159 (upd (c.1 159) 0 (-1))) 160 (upd (c.1 160) 0 (-1))) 162 (upd (c.1 162) 0 16) := ⟨_, rfl⟩
  obtain ⟨y, y1, y2, y3, y4⟩ := tc_run (B := f_X11_init_b456 155) 6 (fun j y => (nI j, tc_mk S y)) (fun j y => (∀ v, v < j → y.1 183 v = -1 ∧ y.1 186 v = 1) ∧ (∀ a, a ≠ 183 → a ≠ 186 → y.1 a = c1.1 a) ∧ y.2 = c1.2) (fun y => tc_mk S y) (by omega) (fun j y hj hy => by
      obtain ⟨g1, g2, g3⟩ := hy
      have e1 : ¬ nI j ≥ 6 := nI_ge hj (by decide)
      refine ⟨_, by simp (maxSteps := 3000000) (disch := omega) only [Option.bind_some, tc_bs, tq_let, tc_I1, tc_I2, tc_J1, tc_J2, tc_J3, tc_F1, tc_F2, tc_F3, tc_F4, tc_G1, tc_G2, tc_G3, tc_G4, tc_G5, tc_us, tc_un, s_one, s_holds, s_J13_bitCount, bz_bI, f_X11_init_b456, hM.f, e1, if_false, nI_1]; rfl, fun v hv => ?_, fun a ha ha2 => ?_, ?_⟩
      · simp (maxSteps := 3000000) (disch := omega) only [Option.bind_some, tc_bs, tq_let, tc_I1, tc_I2, tc_J1, tc_J2, tc_J3, tc_F1, tc_F2, tc_F3, tc_F4, tc_G1, tc_G2, tc_G3, tc_G4, tc_G5, tc_us, tc_un, s_one, s_holds, s_J13_bitCount, bz_bI, if_true]
        by_cases q : v = j
        · subst q; exact ⟨upd_s _ _ _, upd_s _ _ _⟩
        · rw [upd_n _ _ q, upd_n _ _ q]; exact g1 v (by omega)
      · rw [tc_I1, tc_un _ _ ha2, tc_I1, tc_un _ _ ha]; exact g2 a ha ha2
      · exact g3) (fun y hy => by
      have e1 : nI 6 ≥ (6 : Int32) := Int32.le_refl _
      simp only [f_X11_init_b456, ↓reduceIte, e1]) (x := c1) ⟨fun v hv => absurd hv (Nat.not_lt_zero _), fun a _ _ => rfl, rfl⟩
  have y1 : tq_loop (f_X11_init_b456 155) tq_N ((0 : Int32), tc_mk S c1) = some (tc_mk S y) := y1
  have rt : RTree y D0 1 := by
    have z : ∀ i, i < D0.n → i = 0 := fun i hi => by have : i < 1 := hi; omega
    refine ⟨by rw [y4, e1]; rfl, ⟨by decide, fun i _ => Nat.zero_lt_one⟩, fun i hi => ?_, fun v hv hn => ?_, fun i hi => ?_, fun i hi => ?_, fun i hi => ?_, fun i hi => ?_, fun i hi => ?_, fun i h0 hi _ => ?_⟩
    · rw [z i hi, y3 163 (by decide) (by decide), e1]; rfl
    · have hv0 : v ≠ 0 := fun w => hn 0 Nat.zero_lt_one w.symm
      rw [y3 163 (by decide) (by decide), e1]
      show upd (c.1 163) 0 1 v = 0
      rw [upd_n _ _ hv0, h1]
    · rw [z i hi, y3 156 (by decide) (by decide), e1]; rfl
    · rw [z i hi, y3 157 (by decide) (by decide), e1]
      show c.1 157 0 = 0
      rw [h2]
    · rw [z i hi, y3 158 (by decide) (by decide), e1]; rfl
    · rw [z i hi, y3 159 (by decide) (by decide), e1]; rfl
    · rw [z i hi, y3 160 (by decide) (by decide), e1]; rfl
    · have : i < 1 := hi
      omega
  obtain ⟨w, w1, w2, w3⟩ := s_X11_arrange (S := S) hM D0_wf D0_ao (fun x hx => RTree.ans hM D0_wf (rt.af hx) D0_ao)
  have rt2 := rt.af w3
  obtain ⟨f1, f2, f3, f4, f5, f6⟩ := w3
  have s1 : ∀ c, tq_sz (tc_mk S c) 163 0 1 = some (tc_mk S (tc_I c 163 (upd (c.1 163) 0 1))) := fun c => by
    have : tq_sz (tc_mk S c) 163 (nI 0) (bI true) = some (tc_mk S (tc_I c 163 (upd (c.1 163) 0 (bI true)))) := by simp (maxSteps := 3000000) (disch := omega) only [Option.bind_some, tc_bs, tq_let, tc_I1, tc_I2, tc_J1, tc_J2, tc_J3, tc_F1, tc_F2, tc_F3, tc_F4, tc_G1, tc_G2, tc_G3, tc_G4, tc_G5, tc_us, tc_un, s_one, s_holds, s_J13_bitCount, bz_bI, hM.f]
    exact this
  have s2 : ∀ c x, tq_si (tc_mk S c) 156 0 x = some (tc_mk S (tc_I c 156 (upd (c.1 156) 0 x))) := fun c x => by
    have : tq_si (tc_mk S c) 156 (nI 0) x = some (tc_mk S (tc_I c 156 (upd (c.1 156) 0 x))) := by simp (maxSteps := 3000000) (disch := omega) only [Option.bind_some, tc_bs, tq_let, tc_I1, tc_I2, tc_J1, tc_J2, tc_J3, tc_F1, tc_F2, tc_F3, tc_F4, tc_G1, tc_G2, tc_G3, tc_G4, tc_G5, tc_us, tc_un, s_one, s_holds, s_J13_bitCount, bz_bI, hM.f]
    exact this
  have s3 : ∀ c x, tq_si (tc_mk S c) 158 0 x = some (tc_mk S (tc_I c 158 (upd (c.1 158) 0 x))) := fun c x => by
    have : tq_si (tc_mk S c) 158 (nI 0) x = some (tc_mk S (tc_I c 158 (upd (c.1 158) 0 x))) := by simp (maxSteps := 3000000) (disch := omega) only [Option.bind_some, tc_bs, tq_let, tc_I1, tc_I2, tc_J1, tc_J2, tc_J3, tc_F1, tc_F2, tc_F3, tc_F4, tc_G1, tc_G2, tc_G3, tc_G4, tc_G5, tc_us, tc_un, s_one, s_holds, s_J13_bitCount, bz_bI, hM.f]
    exact this
  have s4 : ∀ c x, tq_si (tc_mk S c) 159 0 x = some (tc_mk S (tc_I c 159 (upd (c.1 159) 0 x))) := fun c x => by
    have : tq_si (tc_mk S c) 159 (nI 0) x = some (tc_mk S (tc_I c 159 (upd (c.1 159) 0 x))) := by simp (maxSteps := 3000000) (disch := omega) only [Option.bind_some, tc_bs, tq_let, tc_I1, tc_I2, tc_J1, tc_J2, tc_J3, tc_F1, tc_F2, tc_F3, tc_F4, tc_G1, tc_G2, tc_G3, tc_G4, tc_G5, tc_us, tc_un, s_one, s_holds, s_J13_bitCount, bz_bI, hM.f]
    exact this
  have s5 : ∀ c x, tq_si (tc_mk S c) 160 0 x = some (tc_mk S (tc_I c 160 (upd (c.1 160) 0 x))) := fun c x => by
    have : tq_si (tc_mk S c) 160 (nI 0) x = some (tc_mk S (tc_I c 160 (upd (c.1 160) 0 x))) := by simp (maxSteps := 3000000) (disch := omega) only [Option.bind_some, tc_bs, tq_let, tc_I1, tc_I2, tc_J1, tc_J2, tc_J3, tc_F1, tc_F2, tc_F3, tc_F4, tc_G1, tc_G2, tc_G3, tc_G4, tc_G5, tc_us, tc_un, s_one, s_holds, s_J13_bitCount, bz_bI, hM.f]
    exact this
  have s6 : ∀ c x, tq_si (tc_mk S c) 162 0 x = some (tc_mk S (tc_I c 162 (upd (c.1 162) 0 x))) := fun c x => by
    have : tq_si (tc_mk S c) 162 (nI 0) x = some (tc_mk S (tc_I c 162 (upd (c.1 162) 0 x))) := by simp (maxSteps := 3000000) (disch := omega) only [Option.bind_some, tc_bs, tq_let, tc_I1, tc_I2, tc_J1, tc_J2, tc_J3, tc_F1, tc_F2, tc_F3, tc_F4, tc_G1, tc_G2, tc_G3, tc_G4, tc_G5, tc_us, tc_un, s_one, s_holds, s_J13_bitCount, bz_bI, hM.f]
    exact this
  have q1 : ∀ c x, tq_pf (tc_mk S c) 155 11 1 (.int x) = some (tc_mk S (tc_F c 155 1 x)) := fun _ _ => tc_pfI hM.1 rfl
  have is11 : ∀ c, tq_is (tc_mk S c) 155 11 = some () := fun _ => tc_is hM.1
  refine ⟨w, ?_, rt2, w2, ?_, fun t ht => ?_, fun a ha => ?_, ?_, fun q k hq => ?_, ?_, ?_⟩
  · unfold rest11
    simp (maxSteps := 3000000) (disch := omega) only [Option.bind_some, tc_bs, tq_let, tc_I1, tc_I2, tc_J1, tc_J2, tc_J3, tc_F1, tc_F2, tc_F3, tc_F4, tc_G1, tc_G2, tc_G3, tc_G4, tc_G5, tc_us, tc_un, s_one, s_holds, s_J13_bitCount, bz_bI, q1, hM.f, s1, s2, s3, s4, s5, s6]
    rw [← e1]
    simp (maxSteps := 3000000) (disch := omega) only [Option.bind_some, tc_bs, tq_let, tc_I1, tc_I2, tc_J1, tc_J2, tc_J3, tc_F1, tc_F2, tc_F3, tc_F4, tc_G1, tc_G2, tc_G3, tc_G4, tc_G5, tc_us, tc_un, s_one, s_holds, s_J13_bitCount, bz_bI, y1, is11, w1]
  · rw [f1 162 (by omega), y3 162 (by decide) (by decide), e1]; rfl
  · rw [f1 183 (by omega), f1 186 (by omega)]; exact y2 t ht
  · rw [f1 a (by omega), y3 a (by omega) (by omega), e1]
    simp (disch := omega) only [tc_I1, tc_un]
    rfl
  · rw [f2, y4, e1]; rfl
  · have e : c1.2.2.1 q k = c.2.2.1 q k := by
      rw [e1]
      show (tc_F c 155 1 1).2.2.1 q k = _
      rw [tc_F3]
      by_cases w : q = 155
      · subst w; rw [tc_us, tc_un _ _ (by omega)]
      · rw [tc_un _ _ w]
    by_cases w : q = 155
    · subst w; rw [f4 k (by omega), y4]; exact e
    · rw [f3 q w, y4]; exact e
  · rw [f5, y4, e1]; rfl
  · rw [f6, y4, e1]; rfl
theorem ext_new {L : List tq_O} (h1 : S.1 ≤ k) (h2 : k < S.1 + L.length) : (ext S c L).1 k = (ctn (hl S L)).1 k ∧ (ext S c L).2.2.1 k = (ctn (hl S L)).2.2.1 k := ⟨if_neg (by omega), if_neg (by omega)⟩
/-- where the law begins -/
theorem tc_ob_c5 {c c' : tc_C} {q : Nat} (o : tq_O) (h1 : c'.1 q = c.1 q) (h2 : c'.2.1 q = c.2.1 q) (h3 : c'.2.2.1 q = c.2.2.1 q) (h4 : c'.2.2.2.1 q = c.2.2.2.1 q) (h5 : c'.2.2.2.2 q = c.2.2.2.2 q) : tc_ob c' q o = tc_ob c q o := by
  unfold tc_ob
  rw [h1, h2, h3, h4, h5]
theorem hl_far {H : tq_H} {l : List tq_O} {k : Nat} (h1 : H.1 ≤ k) (h2 : H.1 + l.length ≤ k) : (hl H l).2 k = H.2 k := by
  show (if k < H.1 then H.2 k else (l[k - H.1]?).getD (H.2 k)) = _
  rw [if_neg (by omega), List.getElem?_eq_none (by omega)]
  rfl
theorem S0_far {q : Nat} (h : 155 ≤ q) : S0.2 q = .inl (0, []) := by
  unfold S0
  rw [hl_far (by rw [H0_1]; exact Nat.zero_le _) (by rw [tqE_len, H0_1]; omega)]
  rfl
theorem ghost_begin : ∃ g h0 : tq_H, f_X10_init H0.1 (tq_new H0 (.inl (10, [.null, .null, .null, .null, .null, .null, .null, .null, .null, .null, .null, .null, .int 0, .int 0, .int 0, .long 0, .long 0, .int 0, .int 0]))) = some g ∧ g.1 = 155 ∧ h0.1 = 206 ∧ (∀ q, q < 155 → h0.2 q = g.2 q) ∧ (∀ q, 155 ≤ q → g.2 q = .inl (0, [])) ∧ (∀ q, 206 ≤ q → h0.2 q = .inl (0, [])) ∧ InvE (dist, 0, 0) h0 := by
  obtain ⟨c, b1, b2, b3, b4, b5, b6, b7, ⟨b8, b9, b10, b11, b12⟩, ⟨b13, b14⟩, b15⟩ := tq_begun
  have K1 : (tc_mk S0 c).1 = 155 := S0_1
  -- the model
  have m1 := md_made (tc_mk S0 c) K1
  obtain ⟨S1, eS1⟩ : ∃ S1, S1 = hl S0 (mdE ++ []) := ⟨_, rfl⟩
  obtain ⟨c1, ec1⟩ : ∃ c1, c1 = ext S0 c (mdE ++ []) := ⟨_, rfl⟩
  have m2 : hl (tc_mk S0 c) mdE = tc_mk S1 c1 := by rw [ec1, eS1, ext_mk, List.append_nil]
  have hM1 : tc_Mod S1 205 := by rw [eS1]; exact S1_m []
  have l1 : (mdE ++ []).length = 50 := by rw [List.append_nil, mdE_len]
  have S11 : S1.1 = 205 := by rw [eS1, hl_1, l1, S0_1]
  have o1 : Ol 155 c c1 := by rw [ec1, ← S0_1]; exact ext_ol S0 c _
  have e1 : ∀ a, 155 ≤ a → a < 205 → c1.1 a = (ctn S1).1 a := fun a h1 h2 => by
    rw [ec1, eS1]; exact (ext_new (by rw [S0_1]; exact h1) (by rw [l1, S0_1]; exact h2)).1
  have e3 : ∀ a, 155 ≤ a → a < 205 → c1.2.2.1 a = (ctn S1).2.2.1 a := fun a h1 h2 => by
    rw [ec1, eS1]; exact (ext_new (by rw [S0_1]; exact h1) (by rw [l1, S0_1]; exact h2)).2
  have at1' : ∀ {i o}, mdE[i]? = some o → ∀ k, k = 155 + i → S1.2 k = o := fun h k hk => by rw [eS1]; exact at1 h hk
  have z163 : c1.1 163 = fun _ => 0 := by rw [e1 163 (by decide) (by decide)]; exact ctn_a (at1' (i := 8) rfl 163 rfl)
  have z157 : c1.1 157 = fun _ => 0 := by rw [e1 157 (by decide) (by decide)]; exact ctn_a (at1' (i := 2) rfl 157 rfl)
  have z184 : c1.1 184 = fun _ => 0 := by rw [e1 184 (by decide) (by decide)]; exact ctn_a (at1' (i := 29) rfl 184 rfl)
  have z185 : c1.1 185 = fun _ => 0 := by rw [e1 185 (by decide) (by decide)]; exact ctn_a (at1' (i := 30) rfl 185 rfl)
  have z187 : c1.1 187 = fun _ => 0 := by rw [e1 187 (by decide) (by decide)]; exact ctn_a (at1' (i := 32) rfl 187 rfl)
  have z190 : c1.1 190 = fun _ => 0 := by rw [e1 190 (by decide) (by decide)]; exact ctn_a (at1' (i := 35) rfl 190 rfl)
  have zf : ∀ k, ∀ {fs : List Value}, S1.2 155 = .inl (11, fs) → fs[k]? = some (.int 0) → c1.2.2.1 155 k = 0 := fun k fs h1 h2 => by
    rw [e3 155 (by decide) (by decide)]; exact ctn_f h1 h2
  have y10 : c1.2.2.1 155 10 = 0 := zf 10 hM1.1 rfl
  have y15 : c1.2.2.1 155 15 = 0 := zf 15 hM1.1 rfl
  have y24 : c1.2.2.1 155 24 = 0 := zf 24 hM1.1 rfl
  have y32 : c1.2.2.1 155 32 = 0 := zf 32 hM1.1 rfl
  have y33 : c1.2.2.1 155 33 = 0 := zf 33 hM1.1 rfl
  have y42 : c1.2.2.1 155 42 = 0 := zf 42 hM1.1 rfl
  have y45 : c1.2.2.1 155 45 = 0 := zf 45 hM1.1 rfl
  have y49 : c1.2.2.1 155 49 = 0 := zf 49 hM1.1 rfl
  obtain ⟨c2, r1, r2, r3, r4, r5, r6, r7, r8, r9, r10⟩ := r_start (S := S1) hM1 z163 z157
  -- the answer's place
  obtain ⟨S2, eS2⟩ : ∃ S2, S2 = hl S1 [.inr (2, (1, .inr (.inl (fun _ => 0))))] := ⟨_, rfl⟩
  obtain ⟨c3, ec3⟩ : ∃ c3, c3 = ext S1 c2 [.inr (2, (1, .inr (.inl (fun _ => 0))))] := ⟨_, rfl⟩
  have m3 : tq_new (tc_mk S1 c2) (.inr (2, (1, .inr (.inl (fun _ => 0))))) = tc_mk S2 c3 := by
    have := hl_new (tc_mk S1 c2) [] (.inr (2, (1, .inr (.inl (fun _ => 0)))))
    rw [hl_nil] at this
    rw [this, eS2, ec3, ext_mk]; rfl
  have o2 : Ol 205 c2 c3 := by rw [ec3, ← S11]; exact ext_ol S1 c2 _
  have S21 : S2.1 = 206 := by rw [eS2, hl_1, S11]; rfl
  have eS2' : S2 = hl S0 (mdE ++ [.inr (2, (1, .inr (.inl (fun _ => 0))))]) := by rw [eS2, eS1, List.append_nil, hl_hl]
  have sam : Sam S0 S2 := fun q hq => by rw [eS2']; exact hl_old hq.2
  have s205 : S2.2 205 = .inr (2, (1, .inr (.inl (fun _ => 0)))) := by
    have : (hl S1 [.inr (2, (1, .inr (.inl (fun _ => 0))))]).2 (S1.1 + 0) = _ := hl_at (i := 0) rfl
    rw [S11] at this
    rw [eS2]; exact this
  have s0 : S2.2 0 = S0.2 0 := by rw [eS2']; exact hl_old (by rw [S0_1]; decide)
  have s148 : S2.2 148 = S0.2 148 := sam 148 (by rw [S0_1]; decide)
  have hS : SH S2 none 0 (fun _ => 0) := by
    refine ⟨⟨by rw [s0]; exact at0 (k := 0) rfl, ⟨_, by rw [s148]; exact at0 (k := 148) rfl⟩, S0_r.1.up sam (by rw [S0_1]; decide) (by rw [S0_1]; decide), S0_r.2.1.up sam (by rw [S0_1]; decide) (by rw [S0_1]; decide), S0_r.2.2.up sam (by rw [S0_1]; decide) (by rw [S0_1]; decide), _, s205⟩, ⟨S0_t1.up sam (by rw [S0_1]; decide), S0_t2.up sam (by rw [S0_1]; decide)⟩, S0_u.up sam (by rw [S0_1]; decide), S0_p.up sam (by rw [S0_1]; decide), ⟨S0_f1.up sam (by rw [S0_1]; decide), S0_f2.up sam (by rw [S0_1]; decide)⟩, S0_s.up sam (by rw [S0_1]; decide), by rw [eS2']; exact S1_m _, by rw [S21]; decide, fun k hk => absurd hk (Nat.not_lt_zero _), fun j k _ hk => absurd hk (Nat.not_lt_zero _), fun q hq => by cases hq⟩
  -- what is where, at last
  have k1 : ∀ a, a < 155 → c3.1 a = c.1 a := fun a ha => by rw [o2.1 a (by omega), r6 a (by omega), o1.1 a ha]
  have k2 : ∀ a, a < 155 → c3.2.1 a = c.2.1 a := fun a ha => by rw [o2.2.1 a (by omega), r7, o1.2.1 a ha]
  have k3 : ∀ a, a < 155 → c3.2.2.1 a = c.2.2.1 a := fun a ha => by
    rw [o2.2.2.1 a (by omega)]
    funext k
    rw [r8 a k (by omega), o1.2.2.1 a ha]
  have k4 : ∀ a, a < 155 → c3.2.2.2.1 a = c.2.2.2.1 a := fun a ha => by rw [o2.2.2.2.1 a (by omega), r9, o1.2.2.2.1 a ha]
  have k5' : ∀ a, a < 155 → c3.2.2.2.2 a = c.2.2.2.2 a := fun a ha => by rw [o2.2.2.2.2 a (by omega), r10, o1.2.2.2.2 a ha]
  have k5 : c3.2.2.2.2 148 = c.2.2.2.2 148 := k5' 148 (by decide)
  have j1 : ∀ a, 155 ≤ a → a < 205 → c3.1 a = c2.1 a := fun a _ ha => o2.1 a ha
  have j3 : c3.2.2.1 155 = c2.2.2.1 155 := o2.2.2.1 155 (by decide)
  have jf : ∀ k, k ≠ 1 → k ≠ 11 → c3.2.2.1 155 k = c1.2.2.1 155 k := fun k h1 h2 => by rw [j3]; exact r8 155 k (.inr ⟨h1, h2⟩)
  have gt : GT c3 D0 1 := by
    refine ⟨⟨D0_wf, D0_ao⟩, b2.pt (fun a _ _ => k1 a (by omega)) (fun a _ _ => k2 a (by omega)) (by rw [k3 _ (by decide)]) (by rw [k4 _ (by decide)]) (by rw [k4 _ (by decide)]), b3.pt (fun a _ _ => k1 a (by omega)) (by rw [k3 _ (by decide)]), ?_, ?_⟩
    · unfold RTree at r2 ⊢
      rw [j1 163 (by decide) (by decide), j1 156 (by decide) (by decide), j1 157 (by decide) (by decide), j1 158 (by decide) (by decide), j1 159 (by decide) (by decide), j1 160 (by decide) (by decide), j1 161 (by decide) (by decide), j3]
      exact r2
    · unfold ROrd at r3 ⊢
      rw [j1 164 (by decide) (by decide), j1 165 (by decide) (by decide), j3]
      exact r3
  have w1 : ∀ a, 41 ≤ a → a < 117 ∨ (124 ≤ a ∧ a < 155) → c3.1 a = (ctn S0).1 a := fun a h1 h2 => by rw [k1 a (by omega), b6 a h1 (by omega)]
  have w3 : ∀ a, 41 ≤ a → a < 117 ∨ (124 ≤ a ∧ a < 155) → c3.2.2.1 a = (ctn S0).2.2.1 a := fun a h1 h2 => by rw [k3 a (by omega), b7 a h1 (by omega)]
  have gn : GN c3 D0 := by
    have z : ∀ i, i < D0.n → i = 0 := fun i hi => by have : i < 1 := hi; omega
    refine ⟨fun j hj _ => ?_, fun j hj h2 => absurd h2 (by show ¬ (0 : Int32) = 2; decide), ?_⟩
    · rw [z j hj]
      show c3.1 34 0 = c3.1 162 0
      rw [k1 34 (by decide), b4, j1 162 (by decide) (by decide), r4]
    · rw [k3 0 (by decide), b10, jf 10 (by decide) (by decide), y10]
  have gu : GU c3 D0 1 U0 := by
    refine ⟨⟨?_, by decide, fun k hk => absurd hk (Nat.not_lt_zero _), fun k hk => absurd hk (Nat.not_lt_zero _), fun k hk => absurd hk (Nat.not_lt_zero _), fun k hk => absurd hk (Nat.not_lt_zero _), fun k hk => absurd hk (Nat.not_lt_zero _), fun k hk => absurd hk (Nat.not_lt_zero _)⟩, ⟨?_, by decide, fun k hk => absurd hk (Nat.not_lt_zero _), fun k hk => absurd hk (Nat.not_lt_zero _), fun k hk => absurd hk (Nat.not_lt_zero _), fun k hk => absurd hk (Nat.not_lt_zero _), fun k hk => absurd hk (Nat.not_lt_zero _), fun k hk => absurd hk (Nat.not_lt_zero _), fun k hk => absurd hk (Nat.not_lt_zero _)⟩, ⟨by decide, by decide, fun i _ => Nat.zero_lt_one⟩, fun k hk => absurd hk (Nat.not_lt_zero _), fun k hk => absurd hk (Nat.not_lt_zero _), fun k hk => absurd hk (Nat.not_lt_zero _), fun k hk => absurd hk (Nat.not_lt_zero _), fun k hk => absurd hk (Nat.not_lt_zero _), fun k hk => absurd hk (Nat.not_lt_zero _), fun k hk => absurd hk (Nat.not_lt_zero _)⟩
    · rw [w3 81 (by decide) (by decide)]; exact ctn_f (at0 (k := 81) rfl) rfl
    · rw [jf 15 (by decide) (by decide), y15]; rfl
  have gp : GP c3 P0 := by
    refine ⟨P0_c ?_ (fun p hp => ?_) (fun p hp => ?_), ⟨?_, fun p hp => absurd hp (Nat.not_lt_zero _), fun p k hp => absurd hp (Nat.not_lt_zero _), fun p k d hp => absurd hp (Nat.not_lt_zero _)⟩, P0_wf⟩
    · rw [w3 98 (by decide) (by decide)]; exact ctn_f (at0 (k := 98) rfl) rfl
    · rw [w1 100 (by decide) (by decide), ctn_a (at0 (k := 100) rfl)]; exact if_pos hp
    · rw [w1 108 (by decide) (by decide), ctn_a (at0 (k := 108) rfl)]; exact if_pos hp
    · rw [jf 24 (by decide) (by decide), y24]; rfl
  have gr : GR c3 P0 (fun _ => false) := by
    refine ⟨?_, (fun p hp => by cases hp), ⟨0, by decide, ?_, fun i hi => absurd hi (Nat.not_lt_zero _), (fun p hp => by cases hp), fun i j hi => absurd hi (Nat.not_lt_zero _)⟩, false, ?_, ?_⟩
    · rw [k4 0 (by decide), b13, mkS_0]
    · rw [jf 33 (by decide) (by decide), y33]; rfl
    · rw [k3 0 (by decide), b11]; rfl
    · rw [jf 32 (by decide) (by decide), y32]; rfl
  have gs : GS c3 Z0 := by
    refine ⟨⟨fun t ht => ?_, fun t ht => ?_, fun t ht => ?_, fun t ht => ?_, fun t ht => ?_⟩, ⟨fun t ht => ?_, fun t ht => ?_, fun t ht => ?_, fun t ht => ?_, fun t ht => ?_⟩, false, ?_, ?_⟩
    · rw [w1 133 (by decide) (by decide), ctn_a (at0 (k := 133) rfl)]; exact if_pos ht
    · rw [w1 135 (by decide) (by decide), ctn_a (at0 (k := 135) rfl)]; exact if_pos ht
    · rw [w1 137 (by decide) (by decide), ctn_a (at0 (k := 137) rfl)]; exact if_pos ht
    · rw [w1 139 (by decide) (by decide), ctn_a (at0 (k := 139) rfl)]; exact if_pos ht
    · rw [w3 131 (by decide) (by decide), ctn_f (x := 0) (at0 (k := 131) rfl) rfl]
      exact BitVec.getLsbD_zero
    · rw [j1 183 (by decide) (by decide)]; exact (r5 t ht).1
    · rw [j1 186 (by decide) (by decide)]; exact (r5 t ht).2
    · rw [j1 185 (by decide) (by decide), r6 185 (by decide), z185]; rfl
    · rw [j1 187 (by decide) (by decide), r6 187 (by decide), z187]; rfl
    · rw [j1 184 (by decide) (by decide), r6 184 (by decide), z184]; rfl
    · rw [w3 131 (by decide) (by decide)]; exact ctn_f (at0 (k := 131) rfl) rfl
    · rw [jf 42 (by decide) (by decide), y42]; rfl
  have gx : GX c3 (fun _ => false) := by
    refine ⟨?_, (fun x hx => by cases hx), fun x hx => ?_⟩
    · rw [k4 0 (by decide), b14, mkS_0]
    · rw [j1 190 (by decide) (by decide), r6 190 (by decide), z190]; rfl
  have gv : GV c3 D0 P0 0 := by
    refine ⟨?_, ?_, by decide, fun k hk => absurd hk (Nat.not_lt_zero _), fun k hk => absurd hk (Nat.not_lt_zero _)⟩
    · rw [k3 0 (by decide), b9]; rfl
    · rw [jf 45 (by decide) (by decide), y45]; rfl
  have gk : GK c3 1 0 (fun _ => 0) (fun _ => 0) (fun _ => D0) := by
    refine ⟨?_, ?_, by decide, fun k _ _ => ?_, fun k hk => absurd hk (Nat.not_lt_zero _)⟩
    · rw [k3 0 (by decide), b8]; rfl
    · rw [jf 49 (by decide) (by decide), y49]; rfl
    · rw [k5, b15, ctn_r (at0 (k := 148) rfl)]
  have gq : GQ c3 D0 Z0 0 := by
    have z : ∀ i, i < D0.n → i = 0 := fun i hi => by have : i < 1 := hi; omega
    refine ⟨fun w => ?_, fun _ => 16, fun j hj _ => ⟨?_, (by show 16 ≤ 1000 + 1000 * 0; omega)⟩, fun i j hij hj _ _ => by have := z j hj; omega, rfl⟩
    · obtain ⟨-, -, st, s1, s2⟩ := gs
      have s3 : bI st = 0 := by rw [← s2, jf 42 (by decide) (by decide), y42]
      rw [s1, s3] at w
      exact absurd w (by decide)
    · rw [z j hj]
      show c3.1 34 0 = nI 16
      rw [k1 34 (by decide), b4]; rfl
  refine ⟨tc_mk S0 c, tc_mk S2 c3, ?_, K1, S21, fun q hq => ?_, fun q hq => ?_, fun q hq => ?_, S2, c3, D0, 1, U0, P0, fun _ => false, Z0, fun _ => false, 0, none, 0, fun _ => 0, fun _ => 0, fun _ => D0, rfl, ⟨hS, gt, gn, gu, gp, gr, gs, gx, gv, gk, fun q hq => (by cases hq), gq, rfl⟩, ⟨0, Nat.zero_le _, ?_⟩, true, ?_, fun h => by cases h⟩
  · have n0 : tq_new H0 (.inl (10, [.null, .null, .null, .null, .null, .null, .null, .null, .null, .null, .null, .null, .int 0, .int 0, .int 0, .long 0, .long 0, .int 0, .int 0])) = hl H0 [.inl (10, [.null, .null, .null, .null, .null, .null, .null, .null, .null, .null, .null, .null, .int 0, .int 0, .int 0, .long 0, .long 0, .int 0, .int 0])] := by
      have := hl_new H0 [] (.inl (10, [.null, .null, .null, .null, .null, .null, .null, .null, .null, .null, .null, .null, .int 0, .int 0, .int 0, .long 0, .long 0, .int 0, .int 0]))
      rw [hl_nil] at this; exact this
    rw [n0]
    exact b1
  · show tc_ob c3 q (S2.2 q) = tc_ob c q (S0.2 q)
    rw [show S2.2 q = S0.2 q by rw [eS2']; exact hl_old (by rw [S0_1]; exact hq)]
    exact tc_ob_c5 _ (k1 q hq) (k2 q hq) (k3 q hq) (k4 q hq) (k5' q hq)
  · show tc_ob c q (S0.2 q) = _
    rw [S0_far hq]
    rfl
  · show tc_ob c3 q (S2.2 q) = _
    have e : S2.2 q = S0.2 q := by
      rw [eS2']
      exact hl_far (by rw [S0_1]; omega) (by rw [S0_1, List.length_append, mdE_len]; show 155 + (50 + 1) ≤ q; omega)
    rw [e, S0_far (by omega)]
    rfl
  · obtain ⟨⟨f1, f2, f3, f4⟩, f5, f6⟩ := b5
    exact ⟨⟨gt.2.1, gp.1, by rw [k4 117 (by decide)]; exact f3, fun i hi => by rw [k1 _ (by decide)]; exact f4 i hi⟩, by rw [k3 117 (by decide)]; exact f5, fun p i hp hi => by rw [k2 _ (by decide)]; exact f6 p i hp hi⟩
  · rw [k3 0 (by decide), b12]; rfl
end STA
