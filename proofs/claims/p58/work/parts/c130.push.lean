/-! ===== one more update, on both sides ===== -/
abbrev uc1 (a : Nat) : Prop := 82 ≤ a ∧ a ≤ 97
abbrev uc2 (_a : Nat) : Prop := False
abbrev uc3 (q k : Nat) : Prop := q = 81 ∧ k = 11
section PSH
variable {S S1 S2 : tq_H} {c c1 c2 c' : tc_C} {di : DI} {D : Doc} {m : Nat} {U : Ups} {P : Pat} {H : Nat → Bool} {Z : Sma} {X : Nat → Bool} {nw : Nat} {ed ed2 : Option Nat} {nv z z2 : Nat} {vt mv : Nat → Nat} {Dv : Nat → Doc} {i j : Nat} {v a k y4 x1 x2 x3 x4 : Int32} {n : Nat} {xs : Nat → Int32} {h0 : tq_H}
variable {w t p l kd q : Nat} {nm ct : Int32}
theorem push_old (h : q < U.n) : (U.push w t p l kd nm ct).uw q = U.uw q ∧ (U.push w t p l kd nm ct).ut q = U.ut q ∧ (U.push w t p l kd nm ct).up q = U.up q ∧ (U.push w t p l kd nm ct).ul q = U.ul q ∧ (U.push w t p l kd nm ct).uk q = U.uk q ∧ (U.push w t p l kd nm ct).un q = U.un q ∧ (U.push w t p l kd nm ct).uc q = U.uc q := by
  have hne : ¬ q = U.n := by omega
  exact ⟨if_neg hne, if_neg hne, if_neg hne, if_neg hne, if_neg hne, if_neg hne, if_neg hne⟩
theorem push_new : (U.push w t p l kd nm ct).uw U.n = w ∧ (U.push w t p l kd nm ct).ut U.n = t ∧ (U.push w t p l kd nm ct).up U.n = p ∧ (U.push w t p l kd nm ct).ul U.n = l ∧ (U.push w t p l kd nm ct).uk U.n = kd ∧ (U.push w t p l kd nm ct).un U.n = nm ∧ (U.push w t p l kd nm ct).uc U.n = ct :=
  ⟨if_pos rfl, if_pos rfl, if_pos rfl, if_pos rfl, if_pos rfl, if_pos rfl, if_pos rfl⟩
theorem UC.push (h : UC c 81 U) (hn : U.n < 20) (e : c'.2.2.1 81 11 = nI (U.n + 1)) (e2 : c'.1 83 = upd (c.1 83) U.n (nI w)) (e4 : c'.1 85 = upd (c.1 85) U.n (if w = 0 then -1 else nI t)) (e6 : c'.1 87 = upd (c.1 87) U.n (if w = 0 ∨ w = 4 then nI p else -1))
    (e8 : c'.1 89 = upd (c.1 89) U.n (if w = 4 ∨ (w = 0 ∧ kd ≠ 2) then nI l else -1)) (e10 : ∀ q, q < U.n → c'.1 91 q = c.1 91 q) (e12 : ∀ q, q < U.n → c'.1 93 q = c.1 93 q) (e14 : ∀ q, q < U.n → c'.1 95 q = c.1 95 q)
    (f10 : w = 0 → c'.1 91 U.n = nI kd ∧ c'.1 93 U.n = nm) (f14 : w ≠ 1 → w ≠ 4 → c'.1 95 U.n = ct) : UC c' 81 (U.push w t p l kd nm ct) := by
  obtain ⟨h1, h2, h3, h4, h5, h6, h7, h8⟩ := h
  obtain ⟨n1, n2, n3, n4, n5, n6, n7⟩ := push_new (U := U) (w := w) (t := t) (p := p) (l := l) (kd := kd) (nm := nm) (ct := ct)
  have cs : ∀ q, q < (U.push w t p l kd nm ct).n → q = U.n ∨ q < U.n := fun q hq => by
    have hq : q < U.n + 1 := hq
    omega
  refine ⟨e, hn, fun q hq => ?_, fun q hq => ?_, fun q hq => ?_, fun q hq => ?_, fun q hq => ?_, fun q hq => ?_⟩
  all_goals rcases cs q hq with rfl | hlt
  · show c'.1 83 _ = _
    rw [e2, upd_s, n1]
  · obtain ⟨o1, o2, o3, o4, o5, o6, o7⟩ := push_old (w := w) (t := t) (p := p) (l := l) (kd := kd) (nm := nm) (ct := ct) hlt
    show c'.1 83 _ = _
    rw [e2, upd_n _ _ (by omega), o1]; exact h3 q hlt
  · show c'.1 85 _ = _
    rw [e4, upd_s, n1, n2]
  · obtain ⟨o1, o2, o3, o4, o5, o6, o7⟩ := push_old (w := w) (t := t) (p := p) (l := l) (kd := kd) (nm := nm) (ct := ct) hlt
    show c'.1 85 _ = _
    rw [e4, upd_n _ _ (by omega), o1, o2]; exact h4 q hlt
  · show c'.1 87 _ = _
    rw [e6, upd_s, n1, n3]
  · obtain ⟨o1, o2, o3, o4, o5, o6, o7⟩ := push_old (w := w) (t := t) (p := p) (l := l) (kd := kd) (nm := nm) (ct := ct) hlt
    show c'.1 87 _ = _
    rw [e6, upd_n _ _ (by omega), o1, o3]; exact h5 q hlt
  · show c'.1 89 _ = _
    rw [e8, upd_s, n1, n4, n5]
  · obtain ⟨o1, o2, o3, o4, o5, o6, o7⟩ := push_old (w := w) (t := t) (p := p) (l := l) (kd := kd) (nm := nm) (ct := ct) hlt
    show c'.1 89 _ = _
    rw [e8, upd_n _ _ (by omega), o1, o4, o5]; exact h6 q hlt
  · rw [n1, n5, n6]; exact f10
  · obtain ⟨o1, o2, o3, o4, o5, o6, o7⟩ := push_old (w := w) (t := t) (p := p) (l := l) (kd := kd) (nm := nm) (ct := ct) hlt
    rw [o1, o5, o6]
    intro hz
    show c'.1 91 _ = _ ∧ c'.1 93 _ = _
    rw [e10 q hlt, e12 q hlt]; exact h7 q hlt hz
  · rw [n1, n7]; exact f14
  · obtain ⟨o1, o2, o3, o4, o5, o6, o7⟩ := push_old (w := w) (t := t) (p := p) (l := l) (kd := kd) (nm := nm) (ct := ct) hlt
    rw [o1, o7]
    intro y1 y2
    show c'.1 95 _ = _
    rw [e14 q hlt]; exact h8 q hlt y1 y2
theorem wf_push (h : U.wf m D) (hn : U.n < 20) (c1 : w ≤ 5)
    (c2 : w ≠ 0 → ∃ i, i < D.n ∧ t = D.ord i ∧ (w = 1 → 0 < i) ∧ (w = 4 → 0 < i ∧ D.kd i ≠ 2) ∧ (w = 2 → D.kd i ≠ 1) ∧ (w = 3 → D.kd i ≠ 0) ∧ (w = 5 → D.kd i = 0))
    (c3 : w = 0 ∨ w = 4 → ∃ i, i < D.n ∧ p = D.ord i ∧ D.kd i = 0 ∧ ((w = 0 ∧ kd = 2) ∨ l ≤ fb_ct (D.ax 1 i) 64))
    (c4 : w = 0 → (kd = 0 ∧ nmv nm ∧ ct = -1) ∨ (kd = 1 ∧ nm = -1 ∧ vlv ct) ∨ (kd = 2 ∧ nmv nm ∧ vlv ct))
    (c5 : w = 2 → nmv ct) (c6 : w = 3 → vlv ct) (c7 : w = 5 → ct = -1 ∨ spv ct) : (U.push w t p l kd nm ct).wf m D := by
  obtain ⟨⟨h1, h1', h1''⟩, h2, h3, h4, h5, h6, h7, h8⟩ := h
  obtain ⟨n1, n2, n3, n4, n5, n6, n7⟩ := push_new (U := U) (w := w) (t := t) (p := p) (l := l) (kd := kd) (nm := nm) (ct := ct)
  have cs : ∀ q, q < (U.push w t p l kd nm ct).n → q = U.n ∨ q < U.n := fun q hq => by
    have hq : q < U.n + 1 := hq
    omega
  have od := fun q (hlt : q < U.n) => push_old (w := w) (t := t) (p := p) (l := l) (kd := kd) (nm := nm) (ct := ct) hlt
  refine ⟨⟨hn, h1', h1''⟩, fun q hq => ?_, fun q hq => ?_, fun q hq => ?_, fun q hq => ?_, fun q hq => ?_, fun q hq => ?_, fun q hq => ?_⟩
  all_goals rcases cs q hq with rfl | hlt
  · rw [n1]; exact c1
  · obtain ⟨o1, o2, o3, o4, o5, o6, o7⟩ := od q hlt
    rw [o1]; exact h2 q hlt
  · rw [n1, n2]; exact c2
  · obtain ⟨o1, o2, o3, o4, o5, o6, o7⟩ := od q hlt
    rw [o1, o2]; exact h3 q hlt
  · rw [n1, n3, n4, n5]; exact c3
  · obtain ⟨o1, o2, o3, o4, o5, o6, o7⟩ := od q hlt
    rw [o1, o3, o4, o5]; exact h4 q hlt
  · rw [n1, n5, n6, n7]; exact c4
  · obtain ⟨o1, o2, o3, o4, o5, o6, o7⟩ := od q hlt
    rw [o1, o5, o6, o7]; exact h5 q hlt
  · rw [n1, n7]; exact c5
  · obtain ⟨o1, o2, o3, o4, o5, o6, o7⟩ := od q hlt
    rw [o1, o7]; exact h6 q hlt
  · rw [n1, n7]; exact c6
  · obtain ⟨o1, o2, o3, o4, o5, o6, o7⟩ := od q hlt
    rw [o1, o7]; exact h7 q hlt
  · rw [n1, n7]; exact c7
  · obtain ⟨o1, o2, o3, o4, o5, o6, o7⟩ := od q hlt
    rw [o1, o7]; exact h8 q hlt
theorem s_addInsert (hU : tc_Upd S 81) (h : UC c 81 U) (hn : U.n < 20) (pl : Int32) (hpl : pl = if kd ≠ 2 then nI l else -1) :
    ∃ c', f_X9_addInsert 81 (nI kd) (nI p) pl nm ct (tc_mk S c) = some (nI (U.n + 1), tc_mk S c') ∧ Wr uc1 uc2 uc3 u4 c c' ∧ UC c' 81 (U.push 0 0 p l kd nm ct) := by
  have e1 := h.1
  have r20 : ∀ (f : Nat → Int32) x, rs 20 f (nI U.n) x = upd f U.n x := fun f x => rs_in f x hn (by decide)
  refine ⟨_, by simp (maxSteps := 3000000) (disch := omega) only [Option.bind_some, tc_bs, tq_let, tc_I1, tc_I2, tc_J1, tc_J2, tc_J3, tc_F1, tc_F2, tc_F3, tc_F4, tc_G1, tc_G2, tc_G3, tc_G4, tc_G5, tc_us, tc_un, s_one, s_holds, s_J13_bitCount, bz_bI, f_X9_addInsert, f_X9_add, hU.f, e1, r20, nI_1]; rfl, ?_, h.push hn ?_ ?_ ?_ ?_ ?_ (fun q hq => ?_) (fun q hq => ?_) (fun q hq => ?_) (fun _ => ⟨?_, ?_⟩) (fun _ _ => ?_)⟩
  · exact (((((((Wr.I _ (by omega)).trans (Wr.I _ (by omega))).trans (Wr.I _ (by omega))).trans (Wr.I _ (by omega))).trans (Wr.I _ (by omega))).trans (Wr.I _ (by omega))).trans (Wr.I _ (by omega))).trans (Wr.F _ (by omega))
  all_goals simp (maxSteps := 3000000) (disch := omega) only [Option.bind_some, tc_bs, tq_let, tc_I1, tc_I2, tc_J1, tc_J2, tc_J3, tc_F1, tc_F2, tc_F3, tc_F4, tc_G1, tc_G2, tc_G3, tc_G4, tc_G5, tc_us, tc_un, s_one, s_holds, s_J13_bitCount, bz_bI, if_true]
  · rfl
  · rw [if_pos (.inl trivial)]
  · rw [hpl]
    by_cases q : kd = 2
    · rw [if_neg (fun z => z q), if_neg (by omega)]
    · rw [if_pos q, if_pos (.inr ⟨trivial, q⟩)]
  · rw [upd_n _ _ (by omega)]
  · rw [upd_n _ _ (by omega)]
  · rw [upd_n _ _ (by omega)]
  · rw [upd_s]
  · rw [upd_s]
  · rw [upd_s]
theorem s_addChange (hU : tc_Upd S 81) (h : UC c 81 U) (hn : U.n < 20) (hw : w = 1 ∨ w = 2 ∨ w = 3 ∨ w = 5) :
    ∃ c', f_X9_addChange 81 (nI w) (nI t) ct (tc_mk S c) = some (nI (U.n + 1), tc_mk S c') ∧ Wr uc1 uc2 uc3 u4 c c' ∧ UC c' 81 (U.push w t 0 0 0 0 ct) := by
  have e1 := h.1
  have r20 : ∀ (f : Nat → Int32) x, rs 20 f (nI U.n) x = upd f U.n x := fun f x => rs_in f x hn (by decide)
  refine ⟨_, by simp (maxSteps := 3000000) (disch := omega) only [Option.bind_some, tc_bs, tq_let, tc_I1, tc_I2, tc_J1, tc_J2, tc_J3, tc_F1, tc_F2, tc_F3, tc_F4, tc_G1, tc_G2, tc_G3, tc_G4, tc_G5, tc_us, tc_un, s_one, s_holds, s_J13_bitCount, bz_bI, f_X9_addChange, f_X9_add, hU.f, e1, r20, nI_1]; rfl, ?_, h.push hn ?_ ?_ ?_ ?_ ?_ (fun q hq => ?_) (fun q hq => ?_) (fun q hq => ?_) (fun z => by omega) (fun _ _ => ?_)⟩
  · exact (((((Wr.I _ (by omega)).trans (Wr.I _ (by omega))).trans (Wr.I _ (by omega))).trans (Wr.I _ (by omega))).trans (Wr.I _ (by omega))).trans (Wr.F _ (by omega))
  all_goals simp (maxSteps := 3000000) (disch := omega) only [Option.bind_some, tc_bs, tq_let, tc_I1, tc_I2, tc_J1, tc_J2, tc_J3, tc_F1, tc_F2, tc_F3, tc_F4, tc_G1, tc_G2, tc_G3, tc_G4, tc_G5, tc_us, tc_un, s_one, s_holds, s_J13_bitCount, bz_bI, if_true]
  · rw [if_neg (by omega)]
  · rw [if_neg (by omega)]
  · rw [if_neg (by omega)]
  · rw [upd_n _ _ (by omega)]
  · rw [upd_s]
theorem s_addMove (hU : tc_Upd S 81) (h : UC c 81 U) (hn : U.n < 20) :
    ∃ c', f_X9_addMove 81 (nI t) (nI p) (nI l) (tc_mk S c) = some (nI (U.n + 1), tc_mk S c') ∧ Wr uc1 uc2 uc3 u4 c c' ∧ UC c' 81 (U.push 4 t p l 0 0 0) := by
  have e1 := h.1
  have r20 : ∀ (f : Nat → Int32) x, rs 20 f (nI U.n) x = upd f U.n x := fun f x => rs_in f x hn (by decide)
  refine ⟨_, by simp (maxSteps := 3000000) (disch := omega) only [Option.bind_some, tc_bs, tq_let, tc_I1, tc_I2, tc_J1, tc_J2, tc_J3, tc_F1, tc_F2, tc_F3, tc_F4, tc_G1, tc_G2, tc_G3, tc_G4, tc_G5, tc_us, tc_un, s_one, s_holds, s_J13_bitCount, bz_bI, f_X9_addMove, f_X9_add, hU.f, e1, r20, nI_1]; rfl, ?_, h.push hn ?_ ?_ ?_ ?_ ?_ (fun q hq => ?_) (fun q hq => ?_) (fun q hq => ?_) (fun z => by omega) (fun _ z => absurd rfl z)⟩
  · exact ((((Wr.I _ (by omega)).trans (Wr.I _ (by omega))).trans (Wr.I _ (by omega))).trans (Wr.I _ (by omega))).trans (Wr.F _ (by omega))
  all_goals simp (maxSteps := 3000000) (disch := omega) only [Option.bind_some, tc_bs, tq_let, tc_I1, tc_I2, tc_J1, tc_J2, tc_J3, tc_F1, tc_F2, tc_F3, tc_F4, tc_G1, tc_G2, tc_G3, tc_G4, tc_G5, tc_us, tc_un, s_one, s_holds, s_J13_bitCount, bz_bI, if_true]
  · rfl
  · rw [if_neg (by decide)]
  · rw [if_pos (.inr trivial)]
  · rw [if_pos (.inl trivial)]
theorem s_collect (hM : tc_Mod S z) (h : UR c U) (hn : U.n < 20) {a1 a2 a3 a4 a5 a6 a7 : Int32} (h1 : a1 = nI w) (h2 : a2 = if w = 0 then -1 else nI t) (h3 : w = 0 ∨ w = 4 → a3 = nI p) (h4 : w = 4 ∨ (w = 0 ∧ kd ≠ 2) → a4 = nI l) (h5 : w = 0 → a5 = nI kd ∧ a6 = nm ∧ a7 = ct) (h6 : w = 2 → a6 = ct) (h7 : w = 3 ∨ w = 5 → a7 = ct) :
    ∃ c', f_X11_collect 155 a1 a2 a3 a4 a5 a6 a7 (tc_mk S c) = some (nI (U.n + 1), tc_mk S c') ∧ Wr u1 u2 u3 u4 c c' ∧ UR c' (U.push w t p l kd nm ct) ∧ c'.2.2.1 155 0 = c.2.2.1 155 0 ∧ c'.2.1 = c.2.1 ∧ (∀ a, a ≠ 167 → c'.1 a = c.1 a) ∧ ∀ q k, q ≠ 155 → c'.2.2.1 q k = c.2.2.1 q k := by
  obtain ⟨u1', u2', g3, g4, g5, g6, g7, g8, g9⟩ := h
  obtain ⟨x0, y1, y2, y3, y4, y5, y6⟩ := u7 U.n
  obtain ⟨n1, n2, n3, n4, n5, n6, n7⟩ := push_new (U := U) (w := w) (t := t) (p := p) (l := l) (kd := kd) (nm := nm) (ct := ct)
  have cs : ∀ q, q < (U.push w t p l kd nm ct).n → q = U.n ∨ q < U.n := fun q hq => by
    have hq : q < U.n + 1 := hq
    omega
  have od := fun q (hlt : q < U.n) => push_old (w := w) (t := t) (p := p) (l := l) (kd := kd) (nm := nm) (ct := ct) hlt
  refine ⟨_, by simp (maxSteps := 3000000) (disch := omega) only [Option.bind_some, tc_bs, tq_let, tc_I1, tc_I2, tc_J1, tc_J2, tc_J3, tc_F1, tc_F2, tc_F3, tc_F4, tc_G1, tc_G2, tc_G3, tc_G4, tc_G5, tc_us, tc_un, s_one, s_holds, s_J13_bitCount, bz_bI, f_X11_collect, hM.f, u1', x0, y1, y2, y3, y4, y5, y6, nI_1]; rfl, ?_, ⟨?_, hn, fun q hq => ?_, fun q hq => ?_, fun q hq => ?_, fun q hq => ?_, fun q hq => ?_, fun q hq => ?_, fun q hq => ?_⟩, ?_, ?_, fun a ha => ?_, fun q k hq => ?_⟩
  · exact (((((((Wr.I _ (by omega)).trans (Wr.I _ (by omega))).trans (Wr.I _ (by omega))).trans (Wr.I _ (by omega))).trans (Wr.I _ (by omega))).trans (Wr.I _ (by omega))).trans (Wr.I _ (by omega))).trans (Wr.F _ (by omega))
  · simp (maxSteps := 3000000) (disch := omega) only [Option.bind_some, tc_bs, tq_let, tc_I1, tc_I2, tc_J1, tc_J2, tc_J3, tc_F1, tc_F2, tc_F3, tc_F4, tc_G1, tc_G2, tc_G3, tc_G4, tc_G5, tc_us, tc_un, s_one, s_holds, s_J13_bitCount, bz_bI, if_true]; rfl
  · simp (maxSteps := 3000000) (disch := omega) only [Option.bind_some, tc_bs, tq_let, tc_I1, tc_I2, tc_J1, tc_J2, tc_J3, tc_F1, tc_F2, tc_F3, tc_F4, tc_G1, tc_G2, tc_G3, tc_G4, tc_G5, tc_us, tc_un, s_one, s_holds, s_J13_bitCount, bz_bI, if_true]
    rcases cs q hq with rfl | hlt
    · rw [n1]
      simp (disch := omega) only [upd_s, upd_n]
      exact h1
    · obtain ⟨o1, o2, o3, o4, o5, o6, o7⟩ := od q hlt
      rw [o1]
      simp (disch := omega) only [upd_n]
      exact g3 q hlt
  · simp (maxSteps := 3000000) (disch := omega) only [Option.bind_some, tc_bs, tq_let, tc_I1, tc_I2, tc_J1, tc_J2, tc_J3, tc_F1, tc_F2, tc_F3, tc_F4, tc_G1, tc_G2, tc_G3, tc_G4, tc_G5, tc_us, tc_un, s_one, s_holds, s_J13_bitCount, bz_bI, if_true]
    rcases cs q hq with rfl | hlt
    · rw [n1, n2]
      simp (disch := omega) only [upd_s, upd_n]
      exact h2
    · obtain ⟨o1, o2, o3, o4, o5, o6, o7⟩ := od q hlt
      rw [o1, o2]
      simp (disch := omega) only [upd_n]
      exact g4 q hlt
  · simp (maxSteps := 3000000) (disch := omega) only [Option.bind_some, tc_bs, tq_let, tc_I1, tc_I2, tc_J1, tc_J2, tc_J3, tc_F1, tc_F2, tc_F3, tc_F4, tc_G1, tc_G2, tc_G3, tc_G4, tc_G5, tc_us, tc_un, s_one, s_holds, s_J13_bitCount, bz_bI, if_true]
    rcases cs q hq with rfl | hlt
    · rw [n1, n3]
      simp (disch := omega) only [upd_s, upd_n]
      exact h3
    · obtain ⟨o1, o2, o3, o4, o5, o6, o7⟩ := od q hlt
      rw [o1, o3]
      simp (disch := omega) only [upd_n]
      exact g5 q hlt
  · simp (maxSteps := 3000000) (disch := omega) only [Option.bind_some, tc_bs, tq_let, tc_I1, tc_I2, tc_J1, tc_J2, tc_J3, tc_F1, tc_F2, tc_F3, tc_F4, tc_G1, tc_G2, tc_G3, tc_G4, tc_G5, tc_us, tc_un, s_one, s_holds, s_J13_bitCount, bz_bI, if_true]
    rcases cs q hq with rfl | hlt
    · rw [n1, n4, n5]
      simp (disch := omega) only [upd_s, upd_n]
      exact h4
    · obtain ⟨o1, o2, o3, o4, o5, o6, o7⟩ := od q hlt
      rw [o1, o4, o5]
      simp (disch := omega) only [upd_n]
      exact g6 q hlt
  · simp (maxSteps := 3000000) (disch := omega) only [Option.bind_some, tc_bs, tq_let, tc_I1, tc_I2, tc_J1, tc_J2, tc_J3, tc_F1, tc_F2, tc_F3, tc_F4, tc_G1, tc_G2, tc_G3, tc_G4, tc_G5, tc_us, tc_un, s_one, s_holds, s_J13_bitCount, bz_bI, if_true]
    rcases cs q hq with rfl | hlt
    · rw [n1, n5, n6, n7]
      simp (disch := omega) only [upd_s, upd_n]
      exact h5
    · obtain ⟨o1, o2, o3, o4, o5, o6, o7⟩ := od q hlt
      rw [o1, o5, o6, o7]
      simp (disch := omega) only [upd_n]
      exact g7 q hlt
  · simp (maxSteps := 3000000) (disch := omega) only [Option.bind_some, tc_bs, tq_let, tc_I1, tc_I2, tc_J1, tc_J2, tc_J3, tc_F1, tc_F2, tc_F3, tc_F4, tc_G1, tc_G2, tc_G3, tc_G4, tc_G5, tc_us, tc_un, s_one, s_holds, s_J13_bitCount, bz_bI, if_true]
    rcases cs q hq with rfl | hlt
    · rw [n1, n7]
      simp (disch := omega) only [upd_s, upd_n]
      exact h6
    · obtain ⟨o1, o2, o3, o4, o5, o6, o7⟩ := od q hlt
      rw [o1, o7]
      simp (disch := omega) only [upd_n]
      exact g8 q hlt
  · simp (maxSteps := 3000000) (disch := omega) only [Option.bind_some, tc_bs, tq_let, tc_I1, tc_I2, tc_J1, tc_J2, tc_J3, tc_F1, tc_F2, tc_F3, tc_F4, tc_G1, tc_G2, tc_G3, tc_G4, tc_G5, tc_us, tc_un, s_one, s_holds, s_J13_bitCount, bz_bI, if_true]
    rcases cs q hq with rfl | hlt
    · rw [n1, n7]
      simp (disch := omega) only [upd_s, upd_n]
      exact h7
    · obtain ⟨o1, o2, o3, o4, o5, o6, o7⟩ := od q hlt
      rw [o1, o7]
      simp (disch := omega) only [upd_n]
      exact g9 q hlt
  · simp (maxSteps := 3000000) (disch := omega) only [Option.bind_some, tc_bs, tq_let, tc_I1, tc_I2, tc_J1, tc_J2, tc_J3, tc_F1, tc_F2, tc_F3, tc_F4, tc_G1, tc_G2, tc_G3, tc_G4, tc_G5, tc_us, tc_un, s_one, s_holds, s_J13_bitCount, bz_bI, if_true]
  · rfl
  · simp (maxSteps := 3000000) (disch := omega) only [Option.bind_some, tc_bs, tq_let, tc_I1, tc_I2, tc_J1, tc_J2, tc_J3, tc_F1, tc_F2, tc_F3, tc_F4, tc_G1, tc_G2, tc_G3, tc_G4, tc_G5, tc_us, tc_un, s_one, s_holds, s_J13_bitCount, bz_bI, if_true]
  · simp (maxSteps := 3000000) (disch := omega) only [Option.bind_some, tc_bs, tq_let, tc_I1, tc_I2, tc_J1, tc_J2, tc_J3, tc_F1, tc_F2, tc_F3, tc_F4, tc_G1, tc_G2, tc_G3, tc_G4, tc_G5, tc_us, tc_un, s_one, s_holds, s_J13_bitCount, bz_bI, if_true]
end PSH
