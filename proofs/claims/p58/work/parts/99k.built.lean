/-! ===== the class builds the tree ===== -/
def Ups.G (U : Ups) (m : Nat) (D : Doc) (j u : Nat) : List Nat := if anyB (fun k => decide (D.ord k = u)) j then U.F m D u else []
/-- what building changes -/
def Bf (b g : Nat) (c c' : tc_C) : Prop :=
  (∀ a, (a < b ∨ b + 40 ≤ a) → a ≠ g + 16 → c'.1 a = c.1 a) ∧ (∀ a, (a < b ∨ b + 40 ≤ a) → c'.2.1 a = c.2.1 a) ∧ (∀ a, (a < b ∨ b + 40 ≤ a) → c'.2.2.1 a = c.2.2.1 a) ∧ (∀ a, (a < b ∨ b + 40 ≤ a) → a ≠ g → c'.2.2.2.1 a = c.2.2.2.1 a) ∧ c'.2.2.2.2 = c.2.2.2.2
section BLD
variable {S : tq_H} {c c' c'' : tc_C} {b e g m i j k v w K E N x p n : Nat} {U : Ups} {D : Doc} {N0 : Nat → Int32} {F0 : Nat → List Nat} {P : List Nat}
theorem Bf.trans (h : Bf b g c c') (l : Bf b g c' c'') : Bf b g c c'' := ⟨fun a z1 z2 => (l.1 a z1 z2).trans (h.1 a z1 z2), fun a z => (l.2.1 a z).trans (h.2.1 a z), fun a z => (l.2.2.1 a z).trans (h.2.2.1 a z), fun a z1 z2 => (l.2.2.2.1 a z1 z2).trans (h.2.2.2.1 a z1 z2), l.2.2.2.2.trans h.2.2.2.2⟩
theorem Kp.bf (h : Kp b (b + 40) c c') : Bf b g c c' := ⟨fun a z _ => h.1 a z, fun a z => h.2.1 a z, fun a z => h.2.2.1 a z, fun a z _ => h.2.2.2.1 a z, h.2.2.2.2⟩
theorem Cf.bf (h : Cf b g c c') : Bf b g c c' := by
  obtain ⟨h1, h2, h3, h4, h5⟩ := h
  exact ⟨fun a z1 z2 => h1 a (by omega) (by omega) (by omega) (by omega) (by omega) z2, fun a z => by rw [h2], fun a z => h3 a (by omega), fun a z1 z2 => h4 a z2, h5⟩
theorem Ups.G_or (u : Nat) : U.G m D j u = [] ∨ U.G m D j u = U.F m D u := by
  unfold Ups.G; split
  · exact .inr rfl
  · exact .inl rfl
theorem Ups.G_0 : U.G m D 0 = fun _ => [] := rfl
theorem Ups.G_self (hw : D.wf) (hj : j < D.n) : U.G m D j (D.ord j) = [] := by
  unfold Ups.G
  rw [if_neg]
  intro z
  obtain ⟨k, k1, k2⟩ := anyB_iff.mp z
  have := D.ord_inj hw (show k < D.n by omega) hj (of_decide_eq_true k2)
  omega
theorem Ups.G_s : U.G m D (j + 1) = seF (U.G m D j) (D.ord j) (U.F m D (D.ord j)) := by
  funext u
  unfold Ups.G seF
  rw [anyB]
  by_cases q : u = D.ord j
  · subst q; simp
  · have : ¬ D.ord j = u := fun z => q z.symm
    simp [this, q]
theorem Ups.G_n (hw : D.wf) : U.G m D D.n = U.F m D := by
  funext u
  unfold Ups.G
  cases q : anyB (fun k => decide (D.ord k = u)) D.n with
  | true => rfl
  | false =>
    cases e : U.F m D u with
    | nil => rfl
    | cons a l =>
      exfalso
      obtain ⟨i, i1, i2, -⟩ := (U.F_mem hw).mp (show a ∈ U.F m D u by rw [e]; exact List.mem_cons_self)
      have : anyB (fun k => decide (D.ord k = u)) D.n = true := anyB_iff.mpr ⟨i, i1, decide_eq_true i2⟩
      rw [q] at this; cases this
theorem seF_id (h : F0 E = P) : seF F0 E P = F0 := by
  funext u
  unfold seF
  by_cases q : u = E
  · rw [if_pos q, q, h]
  · rw [if_neg q]
theorem LC.at44 (h : LC S c b e g m D U N0) (hL : Lnk c b (fun _ => [])) :
    ∃ c', tq_loop (f_X9_build_b44 g e b) tq_N (0, tc_mk S c) = some (tc_mk S c') ∧ Lnk c' b (U.F m D) ∧ Lf b c c' := by
  have hw := h.2.2.1.1
  have h60 := D.n_le hw
  obtain ⟨y, y1, y2⟩ := tc_run (B := f_X9_build_b44 g e b) D.n
    (fun j y => (nI j, tc_mk S y)) (fun j y => Lnk y b (U.G m D j) ∧ Lf b c y) (fun y => tc_mk S y) (by omega) (fun j y hj hy => by
      obtain ⟨hy1, hy2⟩ := hy
      have hC := h.lf hy2
      have hC0 := hC
      obtain ⟨⟨hT, hE, hU⟩, hA, ⟨hw, hu, hk, hr⟩, hLy, hUC, hCH⟩ := hC
      have e1 := s_X3_count (c := y) hE hLy
      have e2 : ¬ nI j ≥ nI D.n := nI_ge hj (by omega)
      have e3 := s_X3_elements (c := y) hE hLy
      have e4 : hasI (mkS fun j => decide (j < D.n ∧ D.kd j = 0)) (nI j) = decide (j < D.n ∧ D.kd j = 0) := hasI_mkS _ (by omega)
      by_cases q : D.kd j = 0
      · rw [decide_eq_true ⟨hj, q⟩] at e4
        have e5 : ¬ bI true = 0 := by decide
        have hfe : U.F m D (D.ord j) = cutL (U.aL m D j) 8 ++ cutL (U.kL m D j) (fb_ct (D.ax 1 j) 64 + 1) := by rw [U.F_at hw hj, if_pos q]; rfl
        rw [← seF_id (U.G_self hw hj)] at hy1
        obtain ⟨z, z1, z2, z3⟩ := hC0.linkA hj U.G_or hy1 (by rw [hfe]; exact List.prefix_append _ _)
        obtain ⟨w, w1, w2, w3⟩ := (hC0.lf z3).linkK hj U.G_or z2 (by rw [hfe]; exact List.prefix_refl _)
        refine ⟨w, ?_, ?_, (hy2.trans z3).trans w3⟩
        · simp (maxSteps := 3000000) (disch := omega) only [Option.bind_some, tc_bs, tq_let, tc_I1, tc_I2, tc_J1, tc_J2, tc_J3, tc_F1, tc_F2, tc_F3, tc_F4, tc_G1, tc_G2, tc_G3, tc_G4, tc_G5, tc_us, tc_un, s_one, s_holds, s_J13_bitCount, bz_bI, f_X9_build_b44, hT.f, hE.f, hU.f, e1, e2, e3, e4, e5, if_false, z1, w1, nI_1]
        · rw [U.G_s, hfe]; exact w2
      · rw [decide_eq_false (fun z => q z.2)] at e4
        have e5 : bI false = 0 := rfl
        refine ⟨y, ?_, ?_, hy2⟩
        · simp (maxSteps := 3000000) (disch := omega) only [Option.bind_some, tc_bs, tq_let, tc_I1, tc_I2, tc_J1, tc_J2, tc_J3, tc_F1, tc_F2, tc_F3, tc_F4, tc_G1, tc_G2, tc_G3, tc_G4, tc_G5, tc_us, tc_un, s_one, s_holds, s_J13_bitCount, bz_bI, f_X9_build_b44, hT.f, hE.f, hU.f, e1, e2, e3, e4, e5, if_true, if_false, nI_1]
        · have hfe : U.F m D (D.ord j) = [] := by rw [U.F_at hw hj, if_neg q]
          rw [U.G_s, hfe, seF_id (U.G_self hw hj)]; exact hy1) (fun y hy => by
      obtain ⟨⟨hT, hE, hU⟩, hA, -, hLy, -⟩ := h.lf hy.2
      have e1 := s_X3_count (c := y) hE hLy
      have e2 : nI D.n ≥ nI D.n := Int32.le_refl _
      simp (maxSteps := 3000000) (disch := omega) only [Option.bind_some, tc_bs, tq_let, tc_I1, tc_I2, tc_J1, tc_J2, tc_J3, tc_F1, tc_F2, tc_F3, tc_F4, tc_G1, tc_G2, tc_G3, tc_G4, tc_G5, tc_us, tc_un, s_one, s_holds, s_J13_bitCount, bz_bI, f_X9_build_b44, hE.f, e1, e2, if_true]) (x := c) ⟨by rw [U.G_0]; exact hL, Lf.refl c⟩
  rw [U.G_n hw] at y2
  exact ⟨y, y1, y2⟩
theorem Lnk.cf {F : Nat → List Nat} (h : Lnk c b F) (hA : b + 40 ≤ g) (l : Cf b g c c') : Lnk c' b F := by
  obtain ⟨l1, -⟩ := l
  unfold Lnk
  rw [l1 (b + 31) (by omega) (by omega) (by omega) (by omega) (by omega) (by omega), l1 (b + 35) (by omega) (by omega) (by omega) (by omega) (by omega) (by omega), l1 (b + 37) (by omega) (by omega) (by omega) (by omega) (by omega) (by omega), l1 (b + 39) (by omega) (by omega) (by omega) (by omega) (by omega) (by omega)]
  exact h
theorem Lnk.off {F : Nat → List Nat} (h : Lnk c b F) (o : Off c c' b) : Lnk c' b F := by
  obtain ⟨o1, -⟩ := o
  unfold Lnk
  rw [o1 (b + 31) (by omega), o1 (b + 35) (by omega), o1 (b + 37) (by omega), o1 (b + 39) (by omega)]
  exact h
theorem CH.off (h : CH c b g m D U N0 K) (hA : b + 40 ≤ g) (o : Off c c' b) : CH c' b g m D U N0 K := by
  obtain ⟨o1, o2, o3, o4, o5⟩ := o
  unfold CH
  rw [o1 (b + 23) (by omega), o1 (b + 25) (by omega), o1 (b + 27) (by omega), o1 (b + 29) (by omega), o1 (b + 33) (by omega), o1 (g + 16) (by omega), o3 b (by omega), o4 g (by omega)]
  exact h
theorem Ups.in_lt (hu : U.wf m D) (h : U.In m D U.n v) : v < m + U.ins U.n := by
  rcases h with ⟨i, hi, rfl⟩ | ⟨k, hk, h0, rfl⟩
  · have := hu.1.2.2 i hi; omega
  · have := U.ins_lt h0 hk; omega
theorem s_X9_build (hT : tc_Tree S b) (hE : tc_Tree S e) (hU : tc_Upd S g) (hA : e + 40 ≤ b ∧ b + 40 ≤ g) (hw : D.wf) (hu : U.wf m D) (hk : U.ok) (hr : m + U.ins U.n ≤ 60) (hLy : Lay c e D) (hN : Nod c e D m) (hUC : UC c g U) :
    ∃ c', f_X9_build g e b (tc_mk S c) = some (tc_mk S c') ∧ Lay c' b (U.doc m D) ∧ Nod c' b (U.doc m D) (m + U.ins U.n) ∧ Lnk c' b (U.F m D) ∧ CH c' b g m D U (c.1 (e + 33)) U.n ∧ Bf b g c c' := by
  obtain ⟨c1, s1, s2, s3, s4, s5, s6, s7, s8⟩ := ch_start (c := c) (U := U) hT hE hU hA hw hN
  have hb1 : Bf b g c c1 := ⟨fun a z _ => s4 a (by omega), fun a z => s5 a (by omega), fun a z => s6 a (by omega), fun a z z2 => s7 a (by omega) z2, s8⟩
  have hUC1 : UC c1 g U := by
    unfold UC
    rw [s6 g (by omega), s4 (g + 2) (by omega), s4 (g + 4) (by omega), s4 (g + 6) (by omega), s4 (g + 8) (by omega), s4 (g + 10) (by omega), s4 (g + 12) (by omega), s4 (g + 14) (by omega)]
    exact hUC
  have hLy1 : Lay c1 e D := by
    unfold Lay
    rw [s4 (e + 3) (by omega), s4 (e + 5) (by omega), s4 (e + 7) (by omega), s4 (e + 9) (by omega), s4 (e + 11) (by omega), s5 (e + 13) (by omega), s5 (e + 15) (by omega), s5 (e + 17) (by omega), s5 (e + 19) (by omega), s5 (e + 21) (by omega), s6 (e + 1) (by omega), s7 (e + 1) (by omega) (by omega)]
    exact hLy
  obtain ⟨c2, t1, t2, t3⟩ := ch_loop hT hU hA.2 hw hu hr hUC1 s2 (e := e)
  have hLy2 : Lay c2 e D := by
    obtain ⟨l1, l2, l3, l4, l5⟩ := t3
    unfold Lay
    rw [l2, l1 (e + 3) (by omega) (by omega) (by omega) (by omega) (by omega) (by omega), l1 (e + 5) (by omega) (by omega) (by omega) (by omega) (by omega) (by omega), l1 (e + 7) (by omega) (by omega) (by omega) (by omega) (by omega) (by omega), l1 (e + 9) (by omega) (by omega) (by omega) (by omega) (by omega) (by omega), l1 (e + 11) (by omega) (by omega) (by omega) (by omega) (by omega) (by omega), l3 (e + 1) (by omega), l4 (e + 1) (by omega)]
    exact hLy1
  have hLC : LC S c2 b e g m D U (c.1 (e + 33)) := ⟨⟨hT, hE, hU⟩, hA, ⟨hw, hu, hk, hr⟩, hLy2, hUC1.cf hA.2 t3, t2⟩
  obtain ⟨c3, r1, r2, r3⟩ := hLC.at44 (s3.cf hA.2 t3)
  obtain ⟨-, -, -, -, -, hCH3⟩ := hLC.lf r3
  have hf := U.frs hw hu hk hr
  have hN3 : Nod c3 b (U.doc m D) (m + U.ins U.n) := r2.nod hf hr (fun v hv => U.in_lt hu (U.rch_In hw hu hv)) hCH3.1
    (fun v hv => (hCH3.2.1 v (U.rch_In hw hu hv)).1) (fun v hv => (hCH3.2.1 v (U.rch_In hw hu hv)).2.1) (fun v hv => (hCH3.2.1 v (U.rch_In hw hu hv)).2.2.1) (fun v hv => (hCH3.2.1 v (U.rch_In hw hu hv)).2.2.2)
  obtain ⟨c4, q1, q2, q3, q4⟩ := s_X8_layOut hT (U.doc_wf hw hu hk hr) hN3
  refine ⟨c4, ?_, q2, q3, r2.off q4, hCH3.off hA.2 q4, ((hb1.trans t3.bf).trans r3.kp.bf).trans q4.T.kp.bf⟩
  have s1' := s1
  cases a1 : f_X8_copyLoose b e (tc_mk S c) with
  | none => rw [a1] at s1; cases s1
  | some o1 =>
    rw [a1, Option.bind_some] at s1
    cases a2 : tq_pf o1 g 9 8 (.long (0 : Int64)) with
    | none => rw [a2] at s1; cases s1
    | some o2 =>
      rw [a2, Option.bind_some] at s1
      cases a3 : tq_pf o2 g 9 9 (.long (0 : Int64)) with
      | none => rw [a3] at s1; cases s1
      | some o3 =>
        rw [a3, Option.bind_some] at s1
        simp (maxSteps := 3000000) (disch := omega) only [Option.bind_some, tc_bs, tq_let, tc_I1, tc_I2, tc_J1, tc_J2, tc_J3, tc_F1, tc_F2, tc_F3, tc_F4, tc_G1, tc_G2, tc_G3, tc_G4, tc_G5, tc_us, tc_un, s_one, s_holds, s_J13_bitCount, bz_bI, f_X9_build, hT.f, a1, a2, a3, s1, t1, r1, q1]
end BLD
