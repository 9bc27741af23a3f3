/-! ===== conditions that come to a step; the calls that do it ===== -/
section GRC
variable {S : tq_H} {c c' : tc_C} {P P' : Pat} {D : Doc} {Q H : Nat → Bool} {p q r k d a t y w o m n b z x : Nat}
theorem addC_cc (x : Nat) : (P.addC p w o m n).cc x = if x = P.ls p then P.cc x + 1 else P.cc x := rfl
theorem addC_at : (P.addC p w o m n).cw (P.lc p) = w ∧ (P.addC p w o m n).co (P.lc p) = o ∧ (P.addC p w o m n).cm (P.lc p) = m ∧ (P.addC p w o m n).cn (P.lc p) = n := ⟨if_pos rfl, if_pos rfl, if_pos rfl, if_pos rfl⟩
theorem addC_off {x : Nat} (h : x ≠ P.lc p) : (P.addC p w o m n).cw x = P.cw x ∧ (P.addC p w o m n).co x = P.co x ∧ (P.addC p w o m n).cm x = P.cm x ∧ (P.addC p w o m n).cn x = P.cn x := ⟨if_neg h, if_neg h, if_neg h, if_neg h⟩
theorem addC_agr (h : P.wf) (hp : p < P.n) (h1 : 1 ≤ P.sc p) (h2 : P.cc (P.ls p) < 2) (hr : r < P.n) (hne : r ≠ p) : P.agr (P.addC p w o m n) r := by
  refine ⟨rfl, fun k hk => ?_⟩
  have a1 := h.2.1 r hr
  have a2 := h.2.1 p hp
  have hx : ¬ 5 * r + k = P.ls p := by unfold Pat.ls; omega
  refine ⟨⟨rfl, rfl, rfl, if_neg hx⟩, fun d hd => ?_⟩
  have a3 := (h.2.2 r k hr hk).2.2.2.1
  exact addC_off (by unfold Pat.lc; omega)
/-- which conditions there are then -/
theorem addC_cs (h : P.wf) (hp : p < P.n) (h1 : 1 ≤ P.sc p) (h2 : P.cc (P.ls p) < 2) (hq : q < P.n) (hk : k < P.sc q) (hd : d < (P.addC p w o m n).cc (5 * q + k)) : (5 * q + k = P.ls p ∧ d = P.cc (P.ls p) ∧ q = p ∧ 2 * (5 * q + k) + d = P.lc p) ∨ (d < P.cc (5 * q + k) ∧ 2 * (5 * q + k) + d ≠ P.lc p) := by
  have a1 := h.2.1 q hq
  have a2 := h.2.1 p hp
  have a3 := (h.2.2 q k hq hk).2.2.2.1
  rw [addC_cc] at hd
  by_cases e : 5 * q + k = P.ls p
  · rw [if_pos e, e] at hd
    rw [e]
    have hqp : q = p := by unfold Pat.ls at e; omega
    by_cases e2 : d = P.cc (P.ls p)
    · exact .inl ⟨rfl, e2, hqp, by unfold Pat.lc; omega⟩
    · exact .inr ⟨by omega, by unfold Pat.lc; omega⟩
  · rw [if_neg e] at hd
    refine .inr ⟨hd, ?_⟩
    unfold Pat.lc; omega
theorem addC_wf (h : P.wf) (hp : p < P.n) (h1 : 1 ≤ P.sc p) (h2 : P.cc (P.ls p) < 2) (hw : w < 5) (ho : 2 ≤ w → o < p) (hm : w = 0 ∨ w = 4 → m < 3 ∧ n < 1000) : (P.addC p w o m n).wf := by
  refine ⟨h.1, h.2.1, fun q k hq hk => ?_⟩
  have hk' : k < P.sc q := hk
  obtain ⟨b1, b2, b3, b4, b5⟩ := h.2.2 q k hq hk
  refine ⟨b1, b2, b3, ?_, fun d hd => ?_⟩
  · rw [addC_cc]; split
    · rename_i e; rw [e]; omega
    · exact b4
  · rcases addC_cs h hp h1 h2 hq hk' hd with ⟨e1, e2, e3, e4⟩ | ⟨e1, e2⟩
    · obtain ⟨f1, f2, f3, f4⟩ := addC_at (P := P) (p := p) (w := w) (o := o) (m := m) (n := n)
      rw [e4, f1, f2, f3, f4, e3]
      exact ⟨hw, ho, hm⟩
    · obtain ⟨f1, f2, f3, f4⟩ := addC_off (w := w) (o := o) (m := m) (n := n) e2
      rw [f1, f2, f3, f4]
      exact b5 d e1
theorem PC.addC {oI mI nI' : Int32} (h : PC c 98 P) (hP : P.wf) (hp : p < P.n) (h1 : 1 ≤ P.sc p) (h2 : P.cc (P.ls p) < 2) (e : c'.2.2.1 98 9 = c.2.2.1 98 9) (er : ∀ x, 99 ≤ x → x ≤ 107 → c'.1 x = c.1 x) (e8 : c'.1 108 = upd (c.1 108) (P.ls p) (nI (P.cc (P.ls p) + 1)))
    (e10 : c'.1 110 = upd (c.1 110) (P.lc p) (nI w)) (e12 : c'.1 112 = upd (c.1 112) (P.lc p) oI) (e14 : c'.1 114 = upd (c.1 114) (P.lc p) mI) (e16 : c'.1 116 = upd (c.1 116) (P.lc p) nI') (ho : 2 ≤ w → oI = nI o) (hm : w = 0 ∨ w = 4 → mI = nI m ∧ nI' = nI n) : PC c' 98 (P.addC p w o m n) := by
  obtain ⟨g1, g2, g3, g4, g5⟩ := h
  have a2 := hP.2.1 p hp
  refine ⟨by rw [e]; exact g1, fun q hq => by rw [er (98 + 2) (by omega) (by omega)]; exact g2 q hq, fun q k hq hk => by rw [er (98 + 4) (by omega) (by omega), er (98 + 6) (by omega) (by omega), er (98 + 8) (by omega) (by omega)]; exact g3 q k hq hk, fun q k hq hk => ?_, fun q k d hq hk hd => ?_⟩
  · show c'.1 108 _ = nI (if q < P.n ∧ k < P.sc q then (P.addC p w o m n).cc (5 * q + k) else 0)
    rw [e8, addC_cc]
    by_cases z : 5 * q + k = P.ls p
    · have hqp : q = p ∧ k = P.sc p - 1 := by unfold Pat.ls at z; omega
      rw [z, upd_s, if_pos rfl, if_pos ⟨by omega, by rw [hqp.1]; omega⟩]
    · rw [upd_n _ _ z, if_neg z]; exact g4 q k hq hk
  · have hk' : k < P.sc q := hk
    have hq' : q < P.n := hq
    show c'.1 110 _ = _ ∧ (_ → c'.1 112 _ = _) ∧ (_ → c'.1 114 _ = _ ∧ c'.1 116 _ = _)
    rw [e10, e12, e14, e16]
    rcases addC_cs hP hp h1 h2 hq' hk' hd with ⟨z1, z2, z3, z4⟩ | ⟨z1, z2⟩
    · obtain ⟨f1, f2, f3, f4⟩ := addC_at (P := P) (p := p) (w := w) (o := o) (m := m) (n := n)
      rw [z4, upd_s, upd_s, upd_s, upd_s, f1, f2, f3, f4]
      exact ⟨rfl, ho, hm⟩
    · obtain ⟨f1, f2, f3, f4⟩ := addC_off (w := w) (o := o) (m := m) (n := n) z2
      rw [upd_n _ _ z2, upd_n _ _ z2, upd_n _ _ z2, upd_n _ _ z2, f1, f2, f3, f4]
      exact g5 q k d hq' hk' z1
theorem PR.addC {oI mI nI' : Int32} (h : PR c P) (hP : P.wf) (hp : p < P.n) (h1 : 1 ≤ P.sc p) (h2 : P.cc (P.ls p) < 2) (e : c'.2.2.1 155 24 = c.2.2.1 155 24) (e1 : c'.1 175 = c.1 175) (e2 : c'.1 176 = c.1 176) (e3 : c'.1 177 = upd (c.1 177) (P.ls p) (nI (P.cc (P.ls p) + 1)))
    (e4 : c'.1 178 = upd (upd (upd (upd (c.1 178) (4 * P.lc p) (nI w)) (4 * P.lc p + 1) oI) (4 * P.lc p + 2) mI) (4 * P.lc p + 3) nI') (ho : 2 ≤ w → oI = nI o) (hm : w = 0 ∨ w = 4 → mI = nI m ∧ nI' = nI n) : PR c' (P.addC p w o m n) := by
  obtain ⟨g1, g2, g3, g4⟩ := h
  have a2 := hP.2.1 p hp
  refine ⟨by rw [e]; exact g1, fun q hq => by rw [e1]; exact g2 q hq, fun q k hq hk => ?_, fun q k d hq hk hd => ?_⟩
  · obtain ⟨b1, b2, b3, b4⟩ := g3 q k hq hk
    rw [e2, e3]
    refine ⟨b1, b2, b3, ?_⟩
    rw [addC_cc]
    by_cases z : 5 * q + k = P.ls p
    · rw [z, upd_s, if_pos rfl]
    · rw [upd_n _ _ z, if_neg z]; exact b4
  · have hk' : k < P.sc q := hk
    have hq' : q < P.n := hq
    rw [e4]
    rcases addC_cs hP hp h1 h2 hq' hk' hd with ⟨z1, z2, z3, z4⟩ | ⟨z1, z2⟩
    · obtain ⟨f1, f2, f3, f4⟩ := addC_at (P := P) (p := p) (w := w) (o := o) (m := m) (n := n)
      rw [z4, f1, f2, f3, f4]
      simp (disch := omega) only [upd_s, upd_n]
      exact ⟨trivial, ho, hm⟩
    · obtain ⟨f1, f2, f3, f4⟩ := addC_off (w := w) (o := o) (m := m) (n := n) z2
      rw [f1, f2, f3, f4]
      simp (disch := omega) only [upd_n]
      exact g4 q k d hq' hk' z1
/-- what adding to paths writes in the class -/
abbrev pc1 (a : Nat) : Prop := 100 ≤ a ∧ a ≤ 116
abbrev pc3 (q k : Nat) : Prop := q = 98 ∧ k = 9
theorem s_addPath (hS : tc_Pth S 98) (h : PC c 98 P) : ∃ c', f_X4_addPath 98 (tc_mk S c) = some (nI P.n, tc_mk S c') ∧ PC c' 98 P.addP ∧ Wr pc1 uc2 pc3 u4 c c' := by
  have e1 := h.1
  have e2 : nI (P.n + 1) - 1 = nI P.n := nI_pred P.n
  exact ⟨tc_F c 98 9 (nI (P.n + 1)), by simp (maxSteps := 3000000) (disch := omega) only [Option.bind_some, tc_bs, tq_let, tc_I1, tc_I2, tc_J1, tc_J2, tc_J3, tc_F1, tc_F2, tc_F3, tc_F4, tc_G1, tc_G2, tc_G3, tc_G4, tc_G5, tc_us, tc_un, s_one, s_holds, s_J13_bitCount, bz_bI, f_X4_addPath, hS.f, e1, nI_1, e2], h.addP (by simp (maxSteps := 3000000) (disch := omega) only [Option.bind_some, tc_bs, tq_let, tc_I1, tc_I2, tc_J1, tc_J2, tc_J3, tc_F1, tc_F2, tc_F3, tc_F4, tc_G1, tc_G2, tc_G3, tc_G4, tc_G5, tc_us, tc_un, s_one, s_holds, s_J13_bitCount, bz_bI, if_true]) rfl, Wr.F _ ⟨rfl, rfl⟩⟩
theorem s_addStep (hS : tc_Pth S 98) (h : PC c 98 P) (hP : P.wf) (hp : p < P.n) (h5 : P.sc p < 5) (yI : Int32) (hy : a = 12 → yI = nI y) : ∃ c', f_X4_addStep 98 (nI p) (nI a) (nI t) yI (tc_mk S c) = some (nI (P.sc p + 1), tc_mk S c') ∧ PC c' 98 (P.addS p a t y) ∧ Wr pc1 uc2 pc3 u4 c c' := by
  have h20 := hP.1
  have e1 : rg 20 (c.1 100) (nI p) = nI (P.sc p) := by
    rw [rg_in _ (by omega) (by decide)]
    have := h.2.1 p (by omega)
    rw [if_pos hp] at this; exact this
  have e2 := s_X4_stepAt 98 p (P.sc p) (tc_mk S c)
  have r100 : ∀ (f : Nat → Int32) x, rs 100 f (nI (5 * p + P.sc p)) x = upd f (5 * p + P.sc p) x := fun f x => rs_in f x (by omega) (by decide)
  have r20 : ∀ (f : Nat → Int32) x, rs 20 f (nI p) x = upd f p x := fun f x => rs_in f x (by omega) (by decide)
  refine ⟨_, by simp (maxSteps := 3000000) (disch := omega) only [Option.bind_some, tc_bs, tq_let, tc_I1, tc_I2, tc_J1, tc_J2, tc_J3, tc_F1, tc_F2, tc_F3, tc_F4, tc_G1, tc_G2, tc_G3, tc_G4, tc_G5, tc_us, tc_un, s_one, s_holds, s_J13_bitCount, bz_bI, f_X4_addStep, hS.f, e1, e2, r100, r20, nI_1]; rfl, h.addS (yI := yI) hP hp h5 ?_ ?_ ?_ ?_ ?_ hy (fun x hx1 hx2 => ?_), ?_⟩
  · simp (maxSteps := 3000000) (disch := omega) only [Option.bind_some, tc_bs, tq_let, tc_I1, tc_I2, tc_J1, tc_J2, tc_J3, tc_F1, tc_F2, tc_F3, tc_F4, tc_G1, tc_G2, tc_G3, tc_G4, tc_G5, tc_us, tc_un, s_one, s_holds, s_J13_bitCount, bz_bI, if_true]
  · simp (maxSteps := 3000000) (disch := omega) only [Option.bind_some, tc_bs, tq_let, tc_I1, tc_I2, tc_J1, tc_J2, tc_J3, tc_F1, tc_F2, tc_F3, tc_F4, tc_G1, tc_G2, tc_G3, tc_G4, tc_G5, tc_us, tc_un, s_one, s_holds, s_J13_bitCount, bz_bI, if_true]
  · simp (maxSteps := 3000000) (disch := omega) only [Option.bind_some, tc_bs, tq_let, tc_I1, tc_I2, tc_J1, tc_J2, tc_J3, tc_F1, tc_F2, tc_F3, tc_F4, tc_G1, tc_G2, tc_G3, tc_G4, tc_G5, tc_us, tc_un, s_one, s_holds, s_J13_bitCount, bz_bI, if_true]
  · simp (maxSteps := 3000000) (disch := omega) only [Option.bind_some, tc_bs, tq_let, tc_I1, tc_I2, tc_J1, tc_J2, tc_J3, tc_F1, tc_F2, tc_F3, tc_F4, tc_G1, tc_G2, tc_G3, tc_G4, tc_G5, tc_us, tc_un, s_one, s_holds, s_J13_bitCount, bz_bI, if_true]
  · simp (maxSteps := 3000000) (disch := omega) only [Option.bind_some, tc_bs, tq_let, tc_I1, tc_I2, tc_J1, tc_J2, tc_J3, tc_F1, tc_F2, tc_F3, tc_F4, tc_G1, tc_G2, tc_G3, tc_G4, tc_G5, tc_us, tc_un, s_one, s_holds, s_J13_bitCount, bz_bI, if_true]
  · simp (maxSteps := 3000000) (disch := omega) only [Option.bind_some, tc_bs, tq_let, tc_I1, tc_I2, tc_J1, tc_J2, tc_J3, tc_F1, tc_F2, tc_F3, tc_F4, tc_G1, tc_G2, tc_G3, tc_G4, tc_G5, tc_us, tc_un, s_one, s_holds, s_J13_bitCount, bz_bI, if_true]
  · exact (((Wr.I _ (by omega)).trans (Wr.I _ (by omega))).trans (Wr.I _ (by omega))).trans (Wr.I _ (by omega))
theorem s_addCond0 (hS : tc_Pth S 98) {s x k cc sc : Nat} {wI oI mI nI' : Int32} (e1 : rg 20 (c.1 100) (nI p) = nI sc) (e0 : nI sc - 1 = nI k) (e2 : f_X4_stepAt 98 (nI p) (nI k) (tc_mk S c) = some (nI s)) (e3 : rg 100 (c.1 108) (nI s) = nI cc) (e4 : f_X4_conditionAt 98 (nI s) (nI cc) (tc_mk S c) = some (nI x)) (hs : s < 100) (hx : x < 200) :
    f_X4_addCondition 98 (nI p) wI oI mI nI' (tc_mk S c) = some (nI (cc + 1), tc_mk S (tc_I (tc_I (tc_I (tc_I (tc_I c 110 (upd (c.1 110) x wI)) 112 (upd (c.1 112) x oI)) 114 (upd (c.1 114) x mI)) 116 (upd (c.1 116) x nI')) 108 (upd (c.1 108) s (nI (cc + 1))))) := by
  have r100 : ∀ (f : Nat → Int32) y, rs 100 f (nI s) y = upd f s y := fun f y => rs_in f y hs (by decide)
  have r200 : ∀ (f : Nat → Int32) y, rs 200 f (nI x) y = upd f x y := fun f y => rs_in f y hx (by decide)
  have e6 : nI cc + 1 = nI (cc + 1) := nI_1 _
  obtain ⟨h0, h1, h2, h3, h4, h5, h6, h7, h8, h9⟩ := id hS
  have g0 : ∀ c, tq_gr (tc_mk S c) 98 4 0 = some 99 := fun _ => tc_gr h0 rfl
  have g4 : ∀ c, tq_gr (tc_mk S c) 98 4 4 = some 107 := fun _ => tc_gr h0 rfl
  have g5 : ∀ c, tq_gr (tc_mk S c) 98 4 5 = some 109 := fun _ => tc_gr h0 rfl
  have g6 : ∀ c, tq_gr (tc_mk S c) 98 4 6 = some 111 := fun _ => tc_gr h0 rfl
  have g7 : ∀ c, tq_gr (tc_mk S c) 98 4 7 = some 113 := fun _ => tc_gr h0 rfl
  have g8 : ∀ c, tq_gr (tc_mk S c) 98 4 8 = some 115 := fun _ => tc_gr h0 rfl
  have gi : ∀ c, tq_is (tc_mk S c) 98 4 = some () := fun _ => tc_is h0
  have i99 : ∀ c, tq_is (tc_mk S c) 99 5 = some () := fun c => h1.f.1 c
  have i107 : ∀ c, tq_is (tc_mk S c) 107 5 = some () := fun c => h5.f.1 c
  have i109 : ∀ c, tq_is (tc_mk S c) 109 5 = some () := fun c => h6.f.1 c
  have i111 : ∀ c, tq_is (tc_mk S c) 111 5 = some () := fun c => h7.f.1 c
  have i113 : ∀ c, tq_is (tc_mk S c) 113 5 = some () := fun c => h8.f.1 c
  have i115 : ∀ c, tq_is (tc_mk S c) 115 5 = some () := fun c => h9.f.1 c
  have x99 : ∀ c i, f_X5_get 99 i (tc_mk S c) = some (rg 20 (c.1 100) i) := fun c i => h1.f.2.1 c i
  have x107 : ∀ c i, f_X5_get 107 i (tc_mk S c) = some (rg 100 (c.1 108) i) := fun c i => h5.f.2.1 c i
  have s107 : ∀ c y, f_X5_set 107 (nI s) y (tc_mk S c) = some (tc_mk S (tc_I c 108 (upd (c.1 108) s y))) := fun c y => by rw [← r100]; exact h5.f.2.2.1 c _ y
  have s109 : ∀ c y, f_X5_set 109 (nI x) y (tc_mk S c) = some (tc_mk S (tc_I c 110 (upd (c.1 110) x y))) := fun c y => by rw [← r200]; exact h6.f.2.2.1 c _ y
  have s111 : ∀ c y, f_X5_set 111 (nI x) y (tc_mk S c) = some (tc_mk S (tc_I c 112 (upd (c.1 112) x y))) := fun c y => by rw [← r200]; exact h7.f.2.2.1 c _ y
  have s113 : ∀ c y, f_X5_set 113 (nI x) y (tc_mk S c) = some (tc_mk S (tc_I c 114 (upd (c.1 114) x y))) := fun c y => by rw [← r200]; exact h8.f.2.2.1 c _ y
  have s115 : ∀ c y, f_X5_set 115 (nI x) y (tc_mk S c) = some (tc_mk S (tc_I c 116 (upd (c.1 116) x y))) := fun c y => by rw [← r200]; exact h9.f.2.2.1 c _ y
  unfold f_X4_addCondition
  rw [g0, Option.bind_some, i99, Option.bind_some, x99, Option.bind_some, e1, gi, Option.bind_some, e0, e2, Option.bind_some, g4, Option.bind_some, i107, Option.bind_some, x107, Option.bind_some, e3, Option.bind_some, e4, Option.bind_some]
  simp only [g4, g5, g6, g7, g8, i107, i109, i111, i113, i115, s107, s109, s111, s113, s115, e6, Option.bind_some]
  simp (maxSteps := 3000000) (disch := omega) only [Option.bind_some, tc_bs, tq_let, tc_I1, tc_I2, tc_J1, tc_J2, tc_J3, tc_F1, tc_F2, tc_F3, tc_F4, tc_G1, tc_G2, tc_G3, tc_G4, tc_G5, tc_us, tc_un, s_one, s_holds, s_J13_bitCount, bz_bI, if_true]
theorem s_addCond (hS : tc_Pth S 98) (h : PC c 98 P) (hP : P.wf) (hp : p < P.n) (h1 : 1 ≤ P.sc p) (h2 : P.cc (P.ls p) < 2) (oI mI nI' : Int32) (ho : 2 ≤ w → oI = nI o) (hm : w = 0 ∨ w = 4 → mI = nI m ∧ nI' = nI n) :
    ∃ c', f_X4_addCondition 98 (nI p) (nI w) oI mI nI' (tc_mk S c) = some (nI (P.cc (P.ls p) + 1), tc_mk S c') ∧ PC c' 98 (P.addC p w o m n) ∧ Wr pc1 uc2 pc3 u4 c c' := by
  have h20 := hP.1
  have a2 := hP.2.1 p hp
  have e1 : rg 20 (c.1 100) (nI p) = nI (P.sc p) := by
    rw [rg_in _ (by omega) (by decide)]
    have := h.2.1 p (by omega)
    rw [if_pos hp] at this; exact this
  have e0 : nI (P.sc p) - 1 = nI (P.sc p - 1) := by
    obtain ⟨s, hs⟩ : ∃ s, P.sc p = s + 1 := ⟨P.sc p - 1, by omega⟩
    rw [hs, nI_pred, Nat.add_sub_cancel]
  have e2 : f_X4_stepAt 98 (nI p) (nI (P.sc p - 1)) (tc_mk S c) = some (nI (P.ls p)) := s_X4_stepAt 98 p (P.sc p - 1) (tc_mk S c)
  have hls : P.ls p < 100 := by unfold Pat.ls; omega
  have e3 : rg 100 (c.1 108) (nI (P.ls p)) = nI (P.cc (P.ls p)) := by
    rw [rg_in _ hls (by decide)]
    have := h.2.2.2.1 p (P.sc p - 1) (by omega) (by omega)
    rw [if_pos ⟨hp, by omega⟩] at this; exact this
  have e4 : f_X4_conditionAt 98 (nI (P.ls p)) (nI (P.cc (P.ls p))) (tc_mk S c) = some (nI (P.lc p)) := s_X4_conditionAt 98 (P.ls p) (P.cc (P.ls p)) (tc_mk S c)
  have hlc : P.lc p < 200 := by unfold Pat.lc; omega
  refine ⟨_, s_addCond0 hS e1 e0 e2 e3 e4 hls hlc, h.addC (oI := oI) (mI := mI) (nI' := nI') hP hp h1 h2 ?_ (fun x hx1 hx2 => ?_) ?_ ?_ ?_ ?_ ?_ ho hm, ?_⟩
  · simp (maxSteps := 3000000) (disch := omega) only [Option.bind_some, tc_bs, tq_let, tc_I1, tc_I2, tc_J1, tc_J2, tc_J3, tc_F1, tc_F2, tc_F3, tc_F4, tc_G1, tc_G2, tc_G3, tc_G4, tc_G5, tc_us, tc_un, s_one, s_holds, s_J13_bitCount, bz_bI, if_true]
  · simp (maxSteps := 3000000) (disch := omega) only [Option.bind_some, tc_bs, tq_let, tc_I1, tc_I2, tc_J1, tc_J2, tc_J3, tc_F1, tc_F2, tc_F3, tc_F4, tc_G1, tc_G2, tc_G3, tc_G4, tc_G5, tc_us, tc_un, s_one, s_holds, s_J13_bitCount, bz_bI, if_true]
  · simp (maxSteps := 3000000) (disch := omega) only [Option.bind_some, tc_bs, tq_let, tc_I1, tc_I2, tc_J1, tc_J2, tc_J3, tc_F1, tc_F2, tc_F3, tc_F4, tc_G1, tc_G2, tc_G3, tc_G4, tc_G5, tc_us, tc_un, s_one, s_holds, s_J13_bitCount, bz_bI, if_true]
  · simp (maxSteps := 3000000) (disch := omega) only [Option.bind_some, tc_bs, tq_let, tc_I1, tc_I2, tc_J1, tc_J2, tc_J3, tc_F1, tc_F2, tc_F3, tc_F4, tc_G1, tc_G2, tc_G3, tc_G4, tc_G5, tc_us, tc_un, s_one, s_holds, s_J13_bitCount, bz_bI, if_true]
  · simp (maxSteps := 3000000) (disch := omega) only [Option.bind_some, tc_bs, tq_let, tc_I1, tc_I2, tc_J1, tc_J2, tc_J3, tc_F1, tc_F2, tc_F3, tc_F4, tc_G1, tc_G2, tc_G3, tc_G4, tc_G5, tc_us, tc_un, s_one, s_holds, s_J13_bitCount, bz_bI, if_true]
  · simp (maxSteps := 3000000) (disch := omega) only [Option.bind_some, tc_bs, tq_let, tc_I1, tc_I2, tc_J1, tc_J2, tc_J3, tc_F1, tc_F2, tc_F3, tc_F4, tc_G1, tc_G2, tc_G3, tc_G4, tc_G5, tc_us, tc_un, s_one, s_holds, s_J13_bitCount, bz_bI, if_true]
  · simp (maxSteps := 3000000) (disch := omega) only [Option.bind_some, tc_bs, tq_let, tc_I1, tc_I2, tc_J1, tc_J2, tc_J3, tc_F1, tc_F2, tc_F3, tc_F4, tc_G1, tc_G2, tc_G3, tc_G4, tc_G5, tc_us, tc_un, s_one, s_holds, s_J13_bitCount, bz_bI, if_true]
  · exact ((((Wr.I _ (by omega)).trans (Wr.I _ (by omega))).trans (Wr.I _ (by omega))).trans (Wr.I _ (by omega))).trans (Wr.I _ (by omega))
/-- what it writes in the reference -/
abbrev pr1 (a : Nat) : Prop := 175 ≤ a ∧ a ≤ 178
abbrev pr3 (q k : Nat) : Prop := q = 155 ∧ k = 24
theorem s_X11_condition (hM : tc_Mod S z) (h : PR c P) (hP : P.wf) (hp : p < P.n) (h1 : 1 ≤ P.sc p) (h2 : P.cc (P.ls p) < 2) (oI mI nI' : Int32) (ho : 2 ≤ w → oI = nI o) (hm : w = 0 ∨ w = 4 → mI = nI m ∧ nI' = nI n) :
    ∃ c', f_X11_condition 155 (nI p) (nI w) oI mI nI' (tc_mk S c) = some (nI (P.cc (P.ls p) + 1), tc_mk S c') ∧ PR c' (P.addC p w o m n) ∧ Wr pr1 uc2 pr3 u4 c c' := by
  have h20 := hP.1
  have a2 := hP.2.1 p hp
  have e1 : c.1 175 p = nI (P.sc p) := h.2.1 p hp
  have hls : P.ls p < 100 := by unfold Pat.ls; omega
  have hlc : P.lc p < 200 := by unfold Pat.lc; omega
  have e0 : (5 : Int32) * nI p + nI (P.sc p) - 1 = nI (P.ls p) := by
    rw [show (5 : Int32) * nI p = nI (5 * p) from nI_mul 5 p, nI_add, show 5 * p + P.sc p = P.ls p + 1 by unfold Pat.ls; omega, nI_pred]
  have e3 : c.1 177 (P.ls p) = nI (P.cc (P.ls p)) := (h.2.2.1 p (P.sc p - 1) hp (by omega)).2.2.2
  have e4 : (4 : Int32) * ((2 : Int32) * nI (P.ls p) + nI (P.cc (P.ls p))) = nI (4 * P.lc p) := by
    rw [show (2 : Int32) * nI (P.ls p) = nI (2 * P.ls p) from nI_mul 2 _, nI_add]; exact nI_mul 4 _
  have e5 : nI (4 * P.lc p) + 1 = nI (4 * P.lc p + 1) ∧ nI (4 * P.lc p) + 2 = nI (4 * P.lc p + 2) ∧ nI (4 * P.lc p) + 3 = nI (4 * P.lc p + 3) := ⟨nI_add _ 1, nI_add _ 2, nI_add _ 3⟩
  have e6 : nI (P.cc (P.ls p)) + 1 = nI (P.cc (P.ls p) + 1) := nI_1 _
  refine ⟨_, by simp (maxSteps := 3000000) (disch := omega) only [Option.bind_some, tc_bs, tq_let, tc_I1, tc_I2, tc_J1, tc_J2, tc_J3, tc_F1, tc_F2, tc_F3, tc_F4, tc_G1, tc_G2, tc_G3, tc_G4, tc_G5, tc_us, tc_un, s_one, s_holds, s_J13_bitCount, bz_bI, f_X11_condition, hM.f, e1, e0, e3, e4, e5.1, e5.2.1, e5.2.2, e6, upd_s]; rfl, h.addC (oI := oI) (mI := mI) (nI' := nI') hP hp h1 h2 ?_ ?_ ?_ ?_ ?_ ho hm, ?_⟩
  · simp (maxSteps := 3000000) (disch := omega) only [Option.bind_some, tc_bs, tq_let, tc_I1, tc_I2, tc_J1, tc_J2, tc_J3, tc_F1, tc_F2, tc_F3, tc_F4, tc_G1, tc_G2, tc_G3, tc_G4, tc_G5, tc_us, tc_un, s_one, s_holds, s_J13_bitCount, bz_bI, if_true]
  · simp (maxSteps := 3000000) (disch := omega) only [Option.bind_some, tc_bs, tq_let, tc_I1, tc_I2, tc_J1, tc_J2, tc_J3, tc_F1, tc_F2, tc_F3, tc_F4, tc_G1, tc_G2, tc_G3, tc_G4, tc_G5, tc_us, tc_un, s_one, s_holds, s_J13_bitCount, bz_bI, if_true]
  · simp (maxSteps := 3000000) (disch := omega) only [Option.bind_some, tc_bs, tq_let, tc_I1, tc_I2, tc_J1, tc_J2, tc_J3, tc_F1, tc_F2, tc_F3, tc_F4, tc_G1, tc_G2, tc_G3, tc_G4, tc_G5, tc_us, tc_un, s_one, s_holds, s_J13_bitCount, bz_bI, if_true]
  · simp (maxSteps := 3000000) (disch := omega) only [Option.bind_some, tc_bs, tq_let, tc_I1, tc_I2, tc_J1, tc_J2, tc_J3, tc_F1, tc_F2, tc_F3, tc_F4, tc_G1, tc_G2, tc_G3, tc_G4, tc_G5, tc_us, tc_un, s_one, s_holds, s_J13_bitCount, bz_bI, if_true]
  · simp (maxSteps := 3000000) (disch := omega) only [Option.bind_some, tc_bs, tq_let, tc_I1, tc_I2, tc_J1, tc_J2, tc_J3, tc_F1, tc_F2, tc_F3, tc_F4, tc_G1, tc_G2, tc_G3, tc_G4, tc_G5, tc_us, tc_un, s_one, s_holds, s_J13_bitCount, bz_bI, if_true]
  · exact ((((Wr.I _ (by omega)).trans (Wr.I _ (by omega))).trans (Wr.I _ (by omega))).trans (Wr.I _ (by omega))).trans (Wr.I _ (by omega))
end GRC
