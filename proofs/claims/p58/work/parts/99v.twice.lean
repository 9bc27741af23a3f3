/-! ===== twins in the reference; coming back ===== -/
section TWI
variable {S : tq_H} {c c' : tc_C} {z m i j k v w p M : Nat} {U : Ups} {D : Doc} {F : Nat → List Nat} {pa : Nat → Nat} {R : Rws}
def twR (c : tc_C) (i j : Nat) : Bool := decide (c.1 163 i ≠ 0 ∧ c.1 163 j ≠ 0 ∧ c.1 156 i = 2 ∧ c.1 156 j = 2 ∧ c.1 160 i = c.1 160 j ∧ c.1 157 i = c.1 157 j)
theorem s_hasTwice (hM : tc_Mod S z) (h1 : c.2.2.1 155 1 = nI M) (hM60 : M ≤ 60) : f_X11_hasTwice 155 (tc_mk S c) = some (bI (anyB (fun i => anyB (twR c i) i) M)) := by
  have inner : ∀ i, i < M → ∀ a, tq_loop (f_X11_hasTwice_b14 155 (nI i) (tc_mk S c)) tq_N (bI a, (0 : Int32)) = some (bI (a || anyB (twR c i) i)) := fun i hi a => by
    have W := tc_iter (B := f_X11_hasTwice_b14 155 (nI i) (tc_mk S c)) i (fun j => (bI (a || anyB (twR c i) j), nI j)) (e := bI (a || anyB (twR c i) i)) (fun j hj => ?_) ?_ (by unfold tq_N; omega)
    · have e0 : (bI (a || anyB (twR c i) 0), nI 0) = (bI a, (0 : Int32)) := by rw [anyB, Bool.or_false]; rfl
      rw [← e0]; exact W
    · have e1 : ¬ nI j ≥ nI i := nI_ge hj (by omega)
      rw [anyB]
      generalize anyB (twR c i) j = p
      have hor : (a || (p || twR c i j)) = ((a || p) || twR c i j) := by cases a <;> cases p <;> rfl
      rw [hor]
      generalize (a || p) = q
      have b1 : ¬ bI true = 0 := by decide
      have b0 : bI false = 0 := rfl
      have n10 : ¬ (1 : Int32) = 0 := by decide
      have hno : ¬ (c.1 163 i ≠ 0 ∧ c.1 163 j ≠ 0 ∧ c.1 156 i = 2 ∧ c.1 156 j = 2 ∧ c.1 160 i = c.1 160 j ∧ c.1 157 i = c.1 157 j) → twR c i j = false := fun z => decide_eq_false z
      by_cases q1 : c.1 163 i = 0
      · rw [hno fun z => z.1 q1, Bool.or_false]
        cases q
        · simp (maxSteps := 3000000) (disch := omega) only [Option.bind_some, tc_bs, tq_let, tc_I1, tc_I2, tc_J1, tc_J2, tc_J3, tc_F1, tc_F2, tc_F3, tc_F4, tc_G1, tc_G2, tc_G3, tc_G4, tc_G5, tc_us, tc_un, s_one, s_holds, s_J13_bitCount, bz_bI, f_X11_hasTwice_b14, hM.f, e1, q1, b0, if_true, if_false, nI_1]
        · simp (maxSteps := 3000000) (disch := omega) only [Option.bind_some, tc_bs, tq_let, tc_I1, tc_I2, tc_J1, tc_J2, tc_J3, tc_F1, tc_F2, tc_F3, tc_F4, tc_G1, tc_G2, tc_G3, tc_G4, tc_G5, tc_us, tc_un, s_one, s_holds, s_J13_bitCount, bz_bI, f_X11_hasTwice_b14, hM.f, e1, q1, b1, if_true, if_false, nI_1]; rfl
      · by_cases q2 : c.1 163 j = 0
        · rw [hno fun z => z.2.1 q2, Bool.or_false]
          cases q
          · simp (maxSteps := 3000000) (disch := omega) only [Option.bind_some, tc_bs, tq_let, tc_I1, tc_I2, tc_J1, tc_J2, tc_J3, tc_F1, tc_F2, tc_F3, tc_F4, tc_G1, tc_G2, tc_G3, tc_G4, tc_G5, tc_us, tc_un, s_one, s_holds, s_J13_bitCount, bz_bI, f_X11_hasTwice_b14, hM.f, e1, q1, q2, b0, if_true, if_false, nI_1]
          · simp (maxSteps := 3000000) (disch := omega) only [Option.bind_some, tc_bs, tq_let, tc_I1, tc_I2, tc_J1, tc_J2, tc_J3, tc_F1, tc_F2, tc_F3, tc_F4, tc_G1, tc_G2, tc_G3, tc_G4, tc_G5, tc_us, tc_un, s_one, s_holds, s_J13_bitCount, bz_bI, f_X11_hasTwice_b14, hM.f, e1, q1, q2, b1, if_true, if_false, nI_1]; rfl
        · by_cases q3 : c.1 156 i = 2
          · by_cases q4 : c.1 156 j = 2
            · by_cases q5 : c.1 160 i = c.1 160 j
              · by_cases q6 : c.1 157 i = c.1 157 j
                · rw [show twR c i j = true from decide_eq_true ⟨q1, q2, q3, q4, q5, q6⟩, Bool.or_true]
                  cases q
                  · simp (maxSteps := 3000000) (disch := omega) only [Option.bind_some, tc_bs, tq_let, tc_I1, tc_I2, tc_J1, tc_J2, tc_J3, tc_F1, tc_F2, tc_F3, tc_F4, tc_G1, tc_G2, tc_G3, tc_G4, tc_G5, tc_us, tc_un, s_one, s_holds, s_J13_bitCount, bz_bI, f_X11_hasTwice_b14, hM.f, e1, q1, q2, q3, q4, q5, q6, n10, b0, if_true, if_false, nI_1]; rfl
                  · simp (maxSteps := 3000000) (disch := omega) only [Option.bind_some, tc_bs, tq_let, tc_I1, tc_I2, tc_J1, tc_J2, tc_J3, tc_F1, tc_F2, tc_F3, tc_F4, tc_G1, tc_G2, tc_G3, tc_G4, tc_G5, tc_us, tc_un, s_one, s_holds, s_J13_bitCount, bz_bI, f_X11_hasTwice_b14, hM.f, e1, q1, q2, q3, q4, b1, if_true, if_false, nI_1]; rfl
                · rw [hno fun z => q6 z.2.2.2.2.2, Bool.or_false]
                  cases q
                  · simp (maxSteps := 3000000) (disch := omega) only [Option.bind_some, tc_bs, tq_let, tc_I1, tc_I2, tc_J1, tc_J2, tc_J3, tc_F1, tc_F2, tc_F3, tc_F4, tc_G1, tc_G2, tc_G3, tc_G4, tc_G5, tc_us, tc_un, s_one, s_holds, s_J13_bitCount, bz_bI, f_X11_hasTwice_b14, hM.f, e1, q1, q2, q3, q4, q5, q6, n10, b0, if_true, if_false, nI_1]
                  · simp (maxSteps := 3000000) (disch := omega) only [Option.bind_some, tc_bs, tq_let, tc_I1, tc_I2, tc_J1, tc_J2, tc_J3, tc_F1, tc_F2, tc_F3, tc_F4, tc_G1, tc_G2, tc_G3, tc_G4, tc_G5, tc_us, tc_un, s_one, s_holds, s_J13_bitCount, bz_bI, f_X11_hasTwice_b14, hM.f, e1, q1, q2, q3, q4, b1, if_true, if_false, nI_1]; rfl
              · rw [hno fun z => q5 z.2.2.2.2.1, Bool.or_false]
                cases q
                · simp (maxSteps := 3000000) (disch := omega) only [Option.bind_some, tc_bs, tq_let, tc_I1, tc_I2, tc_J1, tc_J2, tc_J3, tc_F1, tc_F2, tc_F3, tc_F4, tc_G1, tc_G2, tc_G3, tc_G4, tc_G5, tc_us, tc_un, s_one, s_holds, s_J13_bitCount, bz_bI, f_X11_hasTwice_b14, hM.f, e1, q1, q2, q3, q4, q5, n10, b0, if_true, if_false, nI_1]
                · simp (maxSteps := 3000000) (disch := omega) only [Option.bind_some, tc_bs, tq_let, tc_I1, tc_I2, tc_J1, tc_J2, tc_J3, tc_F1, tc_F2, tc_F3, tc_F4, tc_G1, tc_G2, tc_G3, tc_G4, tc_G5, tc_us, tc_un, s_one, s_holds, s_J13_bitCount, bz_bI, f_X11_hasTwice_b14, hM.f, e1, q1, q2, q3, q4, b1, if_true, if_false, nI_1]; rfl
            · rw [hno fun z => q4 z.2.2.2.1, Bool.or_false]
              cases q
              · simp (maxSteps := 3000000) (disch := omega) only [Option.bind_some, tc_bs, tq_let, tc_I1, tc_I2, tc_J1, tc_J2, tc_J3, tc_F1, tc_F2, tc_F3, tc_F4, tc_G1, tc_G2, tc_G3, tc_G4, tc_G5, tc_us, tc_un, s_one, s_holds, s_J13_bitCount, bz_bI, f_X11_hasTwice_b14, hM.f, e1, q1, q2, q3, q4, b0, if_true, if_false, nI_1]
              · simp (maxSteps := 3000000) (disch := omega) only [Option.bind_some, tc_bs, tq_let, tc_I1, tc_I2, tc_J1, tc_J2, tc_J3, tc_F1, tc_F2, tc_F3, tc_F4, tc_G1, tc_G2, tc_G3, tc_G4, tc_G5, tc_us, tc_un, s_one, s_holds, s_J13_bitCount, bz_bI, f_X11_hasTwice_b14, hM.f, e1, q1, q2, q3, q4, b1, if_true, if_false, nI_1]; rfl
          · rw [hno fun z => q3 z.2.2.1, Bool.or_false]
            cases q
            · simp (maxSteps := 3000000) (disch := omega) only [Option.bind_some, tc_bs, tq_let, tc_I1, tc_I2, tc_J1, tc_J2, tc_J3, tc_F1, tc_F2, tc_F3, tc_F4, tc_G1, tc_G2, tc_G3, tc_G4, tc_G5, tc_us, tc_un, s_one, s_holds, s_J13_bitCount, bz_bI, f_X11_hasTwice_b14, hM.f, e1, q1, q2, q3, b0, if_true, if_false, nI_1]
            · simp (maxSteps := 3000000) (disch := omega) only [Option.bind_some, tc_bs, tq_let, tc_I1, tc_I2, tc_J1, tc_J2, tc_J3, tc_F1, tc_F2, tc_F3, tc_F4, tc_G1, tc_G2, tc_G3, tc_G4, tc_G5, tc_us, tc_un, s_one, s_holds, s_J13_bitCount, bz_bI, f_X11_hasTwice_b14, hM.f, e1, q1, q2, q3, b1, if_true, if_false, nI_1]; rfl
    · have e1 : nI i ≥ nI i := Int32.le_refl _
      simp only [f_X11_hasTwice_b14, ↓reduceIte, e1]
  have W := tc_iter (B := f_X11_hasTwice_b4 155 (tc_mk S c)) M (fun i => (bI (anyB (fun i => anyB (twR c i) i) i), nI i)) (e := bI (anyB (fun i => anyB (twR c i) i) M)) (fun i hi => ?_) ?_ (by unfold tq_N; omega)
  · have W : tq_loop (f_X11_hasTwice_b4 155 (tc_mk S c)) tq_N ((0 : Int32), (0 : Int32)) = some (bI (anyB (fun i => anyB (twR c i) i) M)) := W
    unfold f_X11_hasTwice
    rw [W, Option.bind_some, bz_bI, Option.bind_some]
  · have e1 : ¬ nI i ≥ nI M := nI_ge hi (by omega)
    have e2 := inner i hi (anyB (fun i => anyB (twR c i) i) i)
    simp (maxSteps := 3000000) (disch := omega) only [Option.bind_some, tc_bs, tq_let, tc_I1, tc_I2, tc_J1, tc_J2, tc_J3, tc_F1, tc_F2, tc_F3, tc_F4, tc_G1, tc_G2, tc_G3, tc_G4, tc_G5, tc_us, tc_un, s_one, s_holds, s_J13_bitCount, bz_bI, f_X11_hasTwice_b4, hM.f, h1, e1, e2, if_false, nI_1]
    rfl
  · have e1 : nI M ≥ nI M := Int32.le_refl _
    simp (maxSteps := 3000000) (disch := omega) only [Option.bind_some, tc_bs, tq_let, tc_I1, tc_I2, tc_J1, tc_J2, tc_J3, tc_F1, tc_F2, tc_F3, tc_F4, tc_G1, tc_G2, tc_G3, tc_G4, tc_G5, tc_us, tc_un, s_one, s_holds, s_J13_bitCount, bz_bI, f_X11_hasTwice_b4, hM.f, h1, e1, if_true]
theorem Doc.ax11 : D.ax 11 i j = true ↔ j < D.n ∧ 0 < j ∧ D.up j = i ∧ D.kd j = 2 := by simp [Doc.ax]
theorem RRF.up (h : Frs0 F pa) (hR : RwsF F R) (g : RRF c F R M) (hv : Rch F v) (hk : R.1 v = 2) : v ∈ F (pa v) ∧ Rch F (pa v) ∧ c.1 160 v = nI (pa v) := by
  have h0 : v ≠ 0 := fun z => by rw [z, hR.1] at hk; exact absurd hk (by decide)
  obtain ⟨a, b⟩ := rch_up h hv h0
  exact ⟨a, b, g.2.2.2.2.2.1 _ _ b a⟩
theorem RRF.twice (hM : tc_Mod S z) (h : Frs0 F pa) (hR : RwsF F R) (g : RRF c F R M) : ∃ r, f_X11_hasTwice 155 (tc_mk S c) = some (bI r) ∧ (r = true ↔ (mkF F pa R).tw) := by
  obtain ⟨g1, ⟨g2, g2'⟩, g3, g4, g5, g6, g7⟩ := id g
  have hw := mkF_wf h hR
  refine ⟨_, s_hasTwice hM g1 g2, ?_⟩
  have there : ∀ k, k < M → c.1 163 k ≠ 0 → Rch F k := fun k hk h1 => Classical.byContradiction fun z => h1 ((g3 k (by omega)).2 z)
  rw [anyB_iff]
  constructor
  · rintro ⟨x, x1, x2⟩
    obtain ⟨y, y1, y2⟩ := anyB_iff.mp x2
    obtain ⟨t1, t2, t3, t4, t5, t6⟩ := of_decide_eq_true y2
    have rx := there x x1 t1
    have ry := there y (by omega) t2
    rw [(g4 x rx).1] at t3
    rw [(g4 y ry).1] at t4
    rw [(g4 x rx).2.1, (g4 y ry).2.1] at t6
    obtain ⟨a1, a2, a3⟩ := g.up h hR rx t3
    obtain ⟨b1, b2, b3⟩ := g.up h hR ry t4
    rw [a3, b3, nI_eq (by have := g2' _ a2; omega) (by have := g2' _ b2; omega)] at t5
    obtain ⟨p, p1, p2⟩ := (mkF_mem (pa := pa) (R := R) h).mp a2
    obtain ⟨sx, sx1, sx2⟩ := (mkF_mem (pa := pa) (R := R) h).mp rx
    obtain ⟨sy, sy1, sy2⟩ := (mkF_mem (pa := pa) (R := R) h).mp ry
    -- where they stand below their element
    have at' : ∀ s u, s < (mkF F pa R).n → (mkF F pa R).ord s = u → u ∈ F ((mkF F pa R).ord p) → R.1 u = 2 → (mkF F pa R).ax 11 p s = true := fun s u hs e hu hk => by
      obtain ⟨X, Y, hX⟩ := List.append_of_mem hu
      obtain ⟨k1, k2, k3, -⟩ := mkF_kid (R := R) h p1 hX
      have : s = p + 1 + szF F X := mkF_inj (R := R) h hs k1 (by rw [e, k2])
      subst this
      refine Doc.ax11.mpr ⟨hs, by omega, k3, ?_⟩
      rw [mkF_kd, e]; exact hk
    have hx := at' sx x sx1 sx2 (by rw [p2]; exact a1) t3
    have hy := at' sy y sy1 sy2 (by rw [p2, t5]; exact b1) t4
    have hnm : (mkF F pa R).nm sx = (mkF F pa R).nm sy := by rw [mkF_nm, mkF_nm, sx2, sy2]; exact t6
    rcases Nat.lt_trichotomy sx sy with q | q | q
    · exact ⟨p, sx, sy, p1, q, hx, hy, hnm⟩
    · exfalso
      rw [q, sy2] at sx2; omega
    · exact ⟨p, sy, sx, p1, q, hy, hx, hnm.symm⟩
  · rintro ⟨p, a, b, p1, hab, ha, hb, hnm⟩
    obtain ⟨a1, a2, a3, a4⟩ := Doc.ax11.mp ha
    obtain ⟨b1, b2, b3, b4⟩ := Doc.ax11.mp hb
    have ra := mkF_rch (R := R) h a1
    have rb := mkF_rch (R := R) h b1
    have pa1 : c.1 160 ((mkF F pa R).ord a) = nI ((mkF F pa R).ord p) := by
      obtain ⟨-, X, Y, hF, -⟩ := mkF_kid' (R := R) h a2 a1
      rw [a3] at hF
      exact g6 _ _ (mkF_rch h p1) (by rw [hF]; simp)
    have pb1 : c.1 160 ((mkF F pa R).ord b) = nI ((mkF F pa R).ord p) := by
      obtain ⟨-, X, Y, hF, -⟩ := mkF_kid' (R := R) h b2 b1
      rw [b3] at hF
      exact g6 _ _ (mkF_rch h p1) (by rw [hF]; simp)
    have fa : c.1 163 ((mkF F pa R).ord a) ≠ 0 := by rw [(g3 _ ((mkF F pa R).ord_lt hw a1)).1 ra]; decide
    have fb : c.1 163 ((mkF F pa R).ord b) ≠ 0 := by rw [(g3 _ ((mkF F pa R).ord_lt hw b1)).1 rb]; decide
    have ka : c.1 156 ((mkF F pa R).ord a) = 2 := by rw [(g4 _ ra).1]; exact a4
    have kb : c.1 156 ((mkF F pa R).ord b) = 2 := by rw [(g4 _ rb).1]; exact b4
    have na : c.1 157 ((mkF F pa R).ord a) = c.1 157 ((mkF F pa R).ord b) := by rw [(g4 _ ra).2.1, (g4 _ rb).2.1]; exact hnm
    rcases Nat.lt_trichotomy ((mkF F pa R).ord a) ((mkF F pa R).ord b) with q | q | q
    · exact ⟨_, g2' _ rb, anyB_iff.mpr ⟨_, q, decide_eq_true ⟨fb, fa, kb, ka, by rw [pb1, pa1], na.symm⟩⟩⟩
    · exfalso
      have := mkF_inj (R := R) h a1 b1 q
      omega
    · exact ⟨_, g2' _ ra, anyB_iff.mpr ⟨_, q, decide_eq_true ⟨fa, fb, ka, kb, by rw [pb1, pa1], na⟩⟩⟩
/-- without twins the order is the document's -/
theorem tF_mk (h : Frs0 F pa) (hR : RwsF F R) (ht : ¬ (mkF F pa R).tw) : mkF (tF F R) pa R = mkF F pa R := by
  have same : ∀ v, Rch F v → tF F R v = F v := fun v hv => by
    unfold tF
    rw [List.filter_eq_self]
    intro a ha
    refine lst_iff.mpr fun h2 u hu h3 h4 => ?_
    refine Classical.byContradiction fun q => ht ?_
    obtain ⟨p, p1, p2⟩ := (mkF_mem (pa := pa) (R := R) h).mp hv
    obtain ⟨X, Y, hX⟩ := List.append_of_mem (show a ∈ F ((mkF F pa R).ord p) by rw [p2]; exact ha)
    obtain ⟨X', Y', hX'⟩ := List.append_of_mem (show u ∈ F ((mkF F pa R).ord p) by rw [p2]; exact hu)
    obtain ⟨k1, k2, k3, -⟩ := mkF_kid (R := R) h p1 hX
    obtain ⟨l1, l2, l3, -⟩ := mkF_kid (R := R) h p1 hX'
    have e1 : (mkF F pa R).ax 11 p (p + 1 + szF F X) = true := Doc.ax11.mpr ⟨k1, by omega, k3, by rw [mkF_kd, k2]; exact h2⟩
    have e2 : (mkF F pa R).ax 11 p (p + 1 + szF F X') = true := Doc.ax11.mpr ⟨l1, by omega, l3, by rw [mkF_kd, l2]; exact h3⟩
    have e3 : (mkF F pa R).nm (p + 1 + szF F X) = (mkF F pa R).nm (p + 1 + szF F X') := by rw [mkF_nm, mkF_nm, k2, l2]; exact h4.symm
    rcases Nat.lt_trichotomy (p + 1 + szF F X) (p + 1 + szF F X') with z | z | z
    · exact ⟨p, _, _, p1, z, e1, e2, e3⟩
    · rw [z, l2] at k2; omega
    · exact ⟨p, _, _, p1, z, e2, e1, e3.symm⟩
  have hin : ∀ k v, inS (tF F R) k v ↔ inS F k v := by
    intro k
    induction k with
    | zero => intro v; exact Iff.rfl
    | succ k ih =>
      intro v
      constructor
      · rintro ⟨u, h1, h2⟩; exact ⟨u, (ih u).mp h1, (tF_mem.mp h2).1⟩
      · rintro ⟨u, h1, h2⟩; exact ⟨u, (ih u).mpr h1, by rw [same u ⟨k, h1⟩]; exact h2⟩
  have hr : ∀ v, Rch (tF F R) v ↔ Rch F v := fun v => ⟨fun ⟨k, e⟩ => ⟨k, (hin k v).mp e⟩, fun ⟨k, e⟩ => ⟨k, (hin k v).mpr e⟩⟩
  have hf := tF_frs (R := R) h
  have e1 : rF (tF F R) = rF F := by
    funext v
    by_cases q : Rch F v
    · rw [rF_in q, rF_in ((hr v).mpr q), same v q]
    · rw [rF_out q, rF_out fun z => q ((hr v).mp z)]
  have e2 : rR (tF F R) = rR F := by
    funext v
    by_cases q : Rch F v
    · obtain ⟨k, hk⟩ := q
      rw [rR_at h hk, rR_at hf ((hin k v).mpr hk)]
    · unfold rR
      rw [dif_neg q, dif_neg fun z => q ((hr v).mp z)]
  unfold mkF
  rw [e1, e2]
/-- all comes back -/
def Gf (c c' : tc_C) : Prop :=
  (∀ a, a < 156 ∨ a = 156 ∨ a = 162 ∨ 163 < a → c'.1 a = c.1 a) ∧ c'.2 = c.2
theorem s_X11_comeBack (hM : tc_Mod S z) (hb : ∀ v, v < 60 → ∃ r, c.1 173 v = bI r) : ∃ c', f_X11_comeBack 155 (tc_mk S c) = some (tc_mk S c') ∧ (∀ v, v < 60 → c'.1 157 v = c.1 168 v ∧ c'.1 158 v = c.1 169 v ∧ c'.1 159 v = c.1 170 v ∧ c'.1 160 v = c.1 171 v ∧ c'.1 161 v = c.1 172 v ∧ c'.1 163 v = c.1 173 v) ∧ Gf c c' := by
  obtain ⟨y, y1, y2, y3, y4⟩ := tc_run (B := f_X11_comeBack_b2 155) 60 (fun k y => (nI k, tc_mk S y)) (fun k y => (∀ v, v < k → y.1 157 v = c.1 168 v ∧ y.1 158 v = c.1 169 v ∧ y.1 159 v = c.1 170 v ∧ y.1 160 v = c.1 171 v ∧ y.1 161 v = c.1 172 v ∧ y.1 163 v = c.1 173 v) ∧
    (∀ a, a < 156 ∨ a = 156 ∨ a = 162 ∨ 163 < a → y.1 a = c.1 a) ∧ y.2 = c.2) (fun y => tc_mk S y) (by omega) (fun k y hk hy => by
      obtain ⟨h1, h2, h3⟩ := hy
      have e1 : ¬ nI k ≥ 60 := nI_ge hk (by decide)
      obtain ⟨r, hr⟩ := hb k hk
      have e2 : y.1 173 k = bI r := by rw [h2 173 (by omega)]; exact hr
      refine ⟨_, by simp (maxSteps := 3000000) (disch := omega) only [Option.bind_some, tc_bs, tq_let, tc_I1, tc_I2, tc_J1, tc_J2, tc_J3, tc_F1, tc_F2, tc_F3, tc_F4, tc_G1, tc_G2, tc_G3, tc_G4, tc_G5, tc_us, tc_un, s_one, s_holds, s_J13_bitCount, bz_bI, f_X11_comeBack_b2, hM.f, e1, e2, if_false, nI_1]; rfl, fun v hv => ?_, fun a ha => ?_, ?_⟩
      · simp (maxSteps := 3000000) (disch := omega) only [Option.bind_some, tc_bs, tq_let, tc_I1, tc_I2, tc_J1, tc_J2, tc_J3, tc_F1, tc_F2, tc_F3, tc_F4, tc_G1, tc_G2, tc_G3, tc_G4, tc_G5, tc_us, tc_un, s_one, s_holds, s_J13_bitCount, bz_bI, if_true]
        rw [h2 168 (by omega), h2 169 (by omega), h2 170 (by omega), h2 171 (by omega), h2 172 (by omega), ← hr]
        by_cases q : v = k
        · subst q
          simp only [upd_s]
          exact ⟨trivial, trivial, trivial, trivial, trivial, trivial⟩
        · simp only [upd_n _ _ q]
          exact h1 v (by omega)
      · simp (maxSteps := 3000000) (disch := omega) only [Option.bind_some, tc_bs, tq_let, tc_I1, tc_I2, tc_J1, tc_J2, tc_J3, tc_F1, tc_F2, tc_F3, tc_F4, tc_G1, tc_G2, tc_G3, tc_G4, tc_G5, tc_us, tc_un, s_one, s_holds, s_J13_bitCount, bz_bI, if_true]
        exact h2 a ha
      · exact h3) (fun y hy => by
      have e1 : nI 60 ≥ (60 : Int32) := Int32.le_refl _
      simp only [f_X11_comeBack_b2, ↓reduceIte, e1]) (x := c) ⟨fun v hv => absurd hv (Nat.not_lt_zero _), fun a _ => rfl, rfl⟩
  have y1 : tq_loop (f_X11_comeBack_b2 155) tq_N ((0 : Int32), tc_mk S c) = some (tc_mk S y) := y1
  refine ⟨y, ?_, y2, y3, y4⟩
  unfold f_X11_comeBack
  rw [y1, Option.bind_some]
theorem RMem.back (hM : tc_Mod S z) (hw : D.wf) (hm : m ≤ 60 ∧ ∀ i, i < D.n → D.ord i < m) (h1 : c.2.2.1 155 1 = nI m) (hk : ∀ i, i < D.n → c.1 156 (D.ord i) = D.kd i) (h : RMem c D) :
    ∃ c', f_X11_comeBack 155 (tc_mk S c) = some (tc_mk S c') ∧ RTree c' D m ∧ Gf c c' := by
  obtain ⟨r1, r2, r3⟩ := h
  obtain ⟨y, y1, y2, y3⟩ := s_X11_comeBack (c := c) hM fun v hv => by
    by_cases q : ∃ i, i < D.n ∧ D.ord i = v
    · obtain ⟨i, hi, rfl⟩ := q
      exact ⟨true, (r1 i hi).2.2.2.2⟩
    · exact ⟨false, r3 v hv fun i hi e => q ⟨i, hi, e⟩⟩
  have hat : ∀ i, i < D.n → _ := fun i hi => y2 _ (D.ord_lt hw hi)
  refine ⟨y, y1, ⟨by rw [y3.2]; exact h1, hm, fun i hi => ?_, fun v hv hn => ?_, fun i hi => ?_, fun i hi => ?_, fun i hi => ?_, fun i hi => ?_, fun i hi => ?_, fun i h0 hi hk2 => ?_⟩, y3⟩
  · rw [(hat i hi).2.2.2.2.2]; exact (r1 i hi).2.2.2.2
  · rw [(y2 v hv).2.2.2.2.2]; exact r3 v hv hn
  · rw [y3.1 156 (by omega)]; exact hk i hi
  · rw [(hat i hi).1]; exact (r1 i hi).1
  · rw [(hat i hi).2.1]; exact (r1 i hi).2.1
  · rw [(hat i hi).2.2.1]; exact (r1 i hi).2.2.1
  · rw [(hat i hi).2.2.2.1]; exact (r1 i hi).2.2.2.1
  · rw [(hat i hi).2.2.2.2.1]; exact r2 i h0 hi hk2
end TWI
