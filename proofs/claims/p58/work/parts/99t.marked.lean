/-! ===== the reference's rows by lists make its tree ===== -/
def RRF (c : tc_C) (F : Nat → List Nat) (R : Rws) (M : Nat) : Prop :=
  c.2.2.1 155 1 = nI M ∧ (M ≤ 60 ∧ ∀ v, Rch F v → v < M) ∧
  (∀ v, v < 60 → (Rch F v → c.1 163 v = 1) ∧ (¬ Rch F v → c.1 163 v = 0)) ∧
  (∀ v, Rch F v → c.1 156 v = R.1 v ∧ c.1 157 v = R.2.1 v ∧ c.1 158 v = R.2.2.1 v ∧ c.1 159 v = R.2.2.2 v) ∧
  c.1 160 0 = -1 ∧ (∀ v w, Rch F v → w ∈ F v → c.1 160 w = nI v) ∧
  (∀ v X w Y, Rch F v → F v = X ++ w :: Y → R.1 w ≠ 2 → c.1 161 w = nI (X.filter (fun u => decide (R.1 u ≠ 2))).length)
section RRS
variable {S : tq_H} {c c' : tc_C} {z m i j k v w p M : Nat} {U : Ups} {D : Doc} {F : Nat → List Nat} {pa : Nat → Nat} {R : Rws}
theorem mkF_ct (h : Frs0 F pa) (hR : RwsF F R) (hp : p < (mkF F pa R).n) : ∀ n X W, X.length = n → F ((mkF F pa R).ord p) = X ++ W →
    fb_ct (fun s => decide (0 < s ∧ (mkF F pa R).up s = p ∧ (mkF F pa R).kd s ≠ 2)) (p + 1 + szF F X) = (X.filter (fun u => decide (R.1 u ≠ 2))).length := by
  have hw := mkF_wf h hR
  intro n
  induction n with
  | zero =>
    intro X W hX hF
    have : X = [] := List.length_eq_zero_iff.mp hX
    subst this
    show fb_ct _ (p + 1 + 0) = 0
    rw [fb_ct_zero]
    intro s hs
    refine decide_eq_false fun ⟨s0, s1, _⟩ => ?_
    have := (mkF F pa R).up_lt hw s0 (by omega)
    omega
  | succ n ih =>
    intro X W hX hF
    rcases rev_cat X with e | ⟨l, t, e⟩
    · rw [e] at hX; cases hX
    · subst e
      rw [List.length_append, List.length_singleton] at hX
      have hF2 : F ((mkF F pa R).ord p) = l ++ t :: W := by rw [hF]; simp
      obtain ⟨k1, k2, k3, k4⟩ := mkF_kid (R := R) h hp hF2
      have hi := ih l (t :: W) (by omega) hF2
      have hsz := szF_app (F := F) l [t]
      have h1 : 0 < szF F [t] := szF_one h
      obtain ⟨d, hd⟩ : ∃ d, szF F [t] = d + 1 := ⟨szF F [t] - 1, by omega⟩
      rw [hsz, hd, show p + 1 + (szF F l + (d + 1)) = (p + 1 + szF F l + 1) + d by omega, fb_ct_split, fb_ct_succ, hi]
      have hz : fb_ct (fun k => decide (0 < p + 1 + szF F l + 1 + k ∧ (mkF F pa R).up (p + 1 + szF F l + 1 + k) = p ∧ (mkF F pa R).kd (p + 1 + szF F l + 1 + k) ≠ 2)) d = 0 := by
        rw [fb_ct_zero]
        intro s hs
        refine decide_eq_false fun ⟨_, s1, _⟩ => ?_
        have hen := (mkF F pa R).en_le hw k1
        rw [k4, hsz, hd] at hen
        have := ((mkF F pa R).en_up hw (show p + 1 + szF F l < p + 1 + szF F l + 1 + s by omega) (by omega)).mp (by rw [k4, hsz, hd]; omega)
        omega
      rw [hz, List.filter_append, List.length_append]
      have hkd : (mkF F pa R).kd (p + 1 + szF F l) = R.1 t := by rw [mkF_kd, k2]
      rw [k3, hkd]
      by_cases q : R.1 t = 2
      · simp [q]
      · simp [q]
theorem RRF.tree (h : Frs0 F pa) (hR : RwsF F R) (g : RRF c F R M) : RTree c (mkF F pa R) M := by
  obtain ⟨g1, ⟨g2, g2'⟩, g3, g4, g5, g6, g7⟩ := g
  have hw := mkF_wf h hR
  refine ⟨g1, ⟨g2, fun i hi => g2' _ (mkF_rch h hi)⟩, fun i hi => (g3 _ ((mkF F pa R).ord_lt hw hi)).1 (mkF_rch h hi), fun v hv hn => (g3 v hv).2 fun hr => ?_, fun i hi => (g4 _ (mkF_rch h hi)).1, fun i hi => (g4 _ (mkF_rch h hi)).2.1, fun i hi => (g4 _ (mkF_rch h hi)).2.2.1, fun i hi => (g4 _ (mkF_rch h hi)).2.2.2, fun i hi => ?_, fun i h0 hi hk => ?_⟩
  · obtain ⟨i, h1, h2⟩ := (mkF_mem (R := R) h).mp hr
    exact hn i h1 h2
  · unfold Doc.upN
    by_cases q : i = 0
    · subst q
      rw [if_pos rfl, (mkF_0 h).1]; exact g5
    · rw [if_neg q]
      obtain ⟨u1, X, Y, hF, -⟩ := mkF_kid' (R := R) h (Nat.pos_of_ne_zero q) hi
      exact g6 _ _ (mkF_rch h (by omega)) (by rw [hF]; simp)
  · obtain ⟨u1, X, Y, hF, hj⟩ := mkF_kid' (R := R) h h0 hi
    rw [g7 _ X _ Y (mkF_rch h (by omega)) hF hk, ← mkF_ct h hR (show (mkF F pa R).up i < (mkF F pa R).n by omega) _ X _ rfl hF, ← hj]
    rfl
theorem Ups.rmv_rch (hw : D.wf) (hu : U.wf m D) (hok : U.ok) (hf : Frs0 (U.F m D) (U.pa m D)) (h : Rch (U.F m D) v) : U.rmv U.n v = false := by
  by_cases q : v = 0
  · subst q
    cases e : U.rmv U.n 0 with
    | false => rfl
    | true =>
      exfalso
      obtain ⟨l, l1, l2, l3⟩ := Ups.rmv_iff.mp e
      obtain ⟨t, t1, t2, t3, -⟩ := hu.2.2.1 l l1 (by omega)
      have := D.ord_inj hw t1 (D.n_pos hw) (by rw [← t2, l3, D.ord_0 hw])
      have := t3 l2; omega
  · exact U.F_rmv hw hu hok (rch_up hf h q).1
/-- what hangs on the root is there -/
theorem RQ.mark (hM : tc_Mod S z) (hw : D.wf) (hu : U.wf m D) (hok : U.ok) (hr : m + U.ins U.n ≤ 60) (hQ : RQ c m D U) (x : Int64) :
    ∃ c', tq_loop (f_X11_apply_b63 155 (nI m) x) tq_N (0, tc_mk S c) = some (tc_mk S c') ∧ RRF c' (U.F m D) (U.new m D) (m + U.ins U.n) ∧ (∀ a, a ≠ 163 → c'.1 a = c.1 a) ∧ c'.2 = c.2 := by
  have hf := U.frs hw hu hok hr
  obtain ⟨q1, q2, q3, q4, q5, q6, q7, q8⟩ := id hQ
  obtain ⟨s0, -⟩ := mod_sz0 hM
  have s1 : ∀ c k, k < 60 → tq_sz (tc_mk S c) 163 (nI k) 1 = some (tc_mk S (tc_I c 163 (upd (c.1 163) k 1))) := by
    have e : (1 : Int32) = bI true := rfl
    intro c k hk; rw [e]; simp (maxSteps := 3000000) (disch := omega) only [Option.bind_some, tc_bs, tq_let, tc_I1, tc_I2, tc_J1, tc_J2, tc_J3, tc_F1, tc_F2, tc_F3, tc_F4, tc_G1, tc_G2, tc_G3, tc_G4, tc_G5, tc_us, tc_un, s_one, s_holds, s_J13_bitCount, bz_bI, hM.f]
  have hm60 := hu.1.2.1
  obtain ⟨y, y1, y2, y3, y4, y5⟩ := tc_run (B := f_X11_apply_b63 155 (nI m) x) (m + U.ins U.n) (fun v y => (nI v, tc_mk S y)) (fun v y => (∀ u, u < v → (Rch (U.F m D) u → y.1 163 u = 1) ∧ (¬ Rch (U.F m D) u → y.1 163 u = 0)) ∧ (∀ u, v ≤ u → y.1 163 u = c.1 163 u) ∧ (∀ a, a ≠ 163 → y.1 a = c.1 a) ∧ y.2 = c.2) (fun y => tc_mk S y) (by omega) (fun v y hv hy => by
      obtain ⟨y1, y2, y3, y4⟩ := hy
      have e0 : y.2.2.1 155 1 = nI (m + U.ins U.n) := by rw [y4]; exact q1
      have e1 : ¬ nI v ≥ nI (m + U.ins U.n) := nI_ge hv (by omega)
      have hv60 : v < 60 := by omega
      have ev := y2 v (Nat.le_refl _)
      have b1 : ¬ bI true = 0 := by decide
      have b0 : bI false = 0 := rfl
      have goal0 : ¬ Rch (U.F m D) v → f_X11_apply_b63 155 (nI m) x (nI v, tc_mk S y) = some (.inl (nI (v + 1), tc_mk S (tc_I y 163 (upd (y.1 163) v 0)))) → ∃ y', f_X11_apply_b63 155 (nI m) x (nI v, tc_mk S y) = some (.inl (nI (v + 1), tc_mk S y')) ∧ (∀ u, u < v + 1 → (Rch (U.F m D) u → y'.1 163 u = 1) ∧ (¬ Rch (U.F m D) u → y'.1 163 u = 0)) ∧ (∀ u, v + 1 ≤ u → y'.1 163 u = c.1 163 u) ∧ (∀ a, a ≠ 163 → y'.1 a = c.1 a) ∧ y'.2 = c.2 := fun hn he => by
        refine ⟨_, he, fun u hu2 => ?_, fun u hu2 => ?_, fun a ha => ?_, y4⟩
        · simp (maxSteps := 3000000) (disch := omega) only [Option.bind_some, tc_bs, tq_let, tc_I1, tc_I2, tc_J1, tc_J2, tc_J3, tc_F1, tc_F2, tc_F3, tc_F4, tc_G1, tc_G2, tc_G3, tc_G4, tc_G5, tc_us, tc_un, s_one, s_holds, s_J13_bitCount, bz_bI, if_true]
          by_cases q : u = v
          · rw [q, upd_s]; exact ⟨fun z => absurd z hn, fun _ => rfl⟩
          · rw [upd_n _ _ q]; exact y1 u (by omega)
        · simp (maxSteps := 3000000) (disch := omega) only [Option.bind_some, tc_bs, tq_let, tc_I1, tc_I2, tc_J1, tc_J2, tc_J3, tc_F1, tc_F2, tc_F3, tc_F4, tc_G1, tc_G2, tc_G3, tc_G4, tc_G5, tc_us, tc_un, s_one, s_holds, s_J13_bitCount, bz_bI, if_true]
          rw [upd_n _ _ (by omega)]; exact y2 u (by omega)
        · rw [tc_I1, tc_un _ _ ha]; exact y3 a ha
      have goal1 : Rch (U.F m D) v → f_X11_apply_b63 155 (nI m) x (nI v, tc_mk S y) = some (.inl (nI (v + 1), tc_mk S (tc_I y 163 (upd (y.1 163) v 1)))) → ∃ y', f_X11_apply_b63 155 (nI m) x (nI v, tc_mk S y) = some (.inl (nI (v + 1), tc_mk S y')) ∧ (∀ u, u < v + 1 → (Rch (U.F m D) u → y'.1 163 u = 1) ∧ (¬ Rch (U.F m D) u → y'.1 163 u = 0)) ∧ (∀ u, v + 1 ≤ u → y'.1 163 u = c.1 163 u) ∧ (∀ a, a ≠ 163 → y'.1 a = c.1 a) ∧ y'.2 = c.2 := fun hn he => by
        refine ⟨_, he, fun u hu2 => ?_, fun u hu2 => ?_, fun a ha => ?_, y4⟩
        · simp (maxSteps := 3000000) (disch := omega) only [Option.bind_some, tc_bs, tq_let, tc_I1, tc_I2, tc_J1, tc_J2, tc_J3, tc_F1, tc_F2, tc_F3, tc_F4, tc_G1, tc_G2, tc_G3, tc_G4, tc_G5, tc_us, tc_un, s_one, s_holds, s_J13_bitCount, bz_bI, if_true]
          by_cases q : u = v
          · rw [q, upd_s]; exact ⟨fun _ => rfl, fun z => absurd hn z⟩
          · rw [upd_n _ _ q]; exact y1 u (by omega)
        · simp (maxSteps := 3000000) (disch := omega) only [Option.bind_some, tc_bs, tq_let, tc_I1, tc_I2, tc_J1, tc_J2, tc_J3, tc_F1, tc_F2, tc_F3, tc_F4, tc_G1, tc_G2, tc_G3, tc_G4, tc_G5, tc_us, tc_un, s_one, s_holds, s_J13_bitCount, bz_bI, if_true]
          rw [upd_n _ _ (by omega)]; exact y2 u (by omega)
        · rw [tc_I1, tc_un _ _ ha]; exact y3 a ha
      have hh : U.In m D U.n v → ∃ r, f_X11_hangs 155 (nI v) (tc_mk S y) = some (bI r) ∧ (r = true ↔ Rch (U.F m D) v) := fun hI => s_X11_hangs hM hw hu hr hf (fun w hw2 => by rw [y3 160 (by decide)]; exact hQ.pI hw hf hw2) hI
      by_cases qd : ∃ i, i < D.n ∧ D.ord i = v
      · obtain ⟨i, hi, rfl⟩ := qd
        have hlt := hu.1.2.2 i hi
        have e2 : nI (D.ord i) < nI m := nI_lt hlt (by omega)
        rw [q6 i hi] at ev
        cases qr : U.rmv U.n (D.ord i) with
        | true =>
          rw [qr] at ev
          have ev : y.1 163 (D.ord i) = 0 := ev
          refine goal0 (fun z => by rw [U.rmv_rch hw hu hok hf z] at qr; cases qr) ?_
          simp (maxSteps := 3000000) (disch := omega) only [Option.bind_some, tc_bs, tq_let, tc_I1, tc_I2, tc_J1, tc_J2, tc_J3, tc_F1, tc_F2, tc_F3, tc_F4, tc_G1, tc_G2, tc_G3, tc_G4, tc_G5, tc_us, tc_un, s_one, s_holds, s_J13_bitCount, bz_bI, f_X11_apply_b63, hM.f, s0, e0, e1, ev, e2, if_true, if_false, nI_1]
        | false =>
          rw [qr] at ev
          have ev : y.1 163 (D.ord i) = 1 := ev
          have n10 : ¬ (1 : Int32) = 0 := by decide
          obtain ⟨r, r1, r2⟩ := hh (.inl ⟨i, hi, rfl⟩)
          cases r with
          | true =>
            refine goal1 (r2.mp rfl) ?_
            simp (maxSteps := 3000000) (disch := omega) only [Option.bind_some, tc_bs, tq_let, tc_I1, tc_I2, tc_J1, tc_J2, tc_J3, tc_F1, tc_F2, tc_F3, tc_F4, tc_G1, tc_G2, tc_G3, tc_G4, tc_G5, tc_us, tc_un, s_one, s_holds, s_J13_bitCount, bz_bI, f_X11_apply_b63, hM.f, s1, e0, e1, ev, n10, r1, b1, if_true, if_false, nI_1]
          | false =>
            refine goal0 (fun z => Bool.noConfusion (r2.mpr z)) ?_
            simp (maxSteps := 3000000) (disch := omega) only [Option.bind_some, tc_bs, tq_let, tc_I1, tc_I2, tc_J1, tc_J2, tc_J3, tc_F1, tc_F2, tc_F3, tc_F4, tc_G1, tc_G2, tc_G3, tc_G4, tc_G5, tc_us, tc_un, s_one, s_holds, s_J13_bitCount, bz_bI, f_X11_apply_b63, hM.f, s0, e0, e1, ev, n10, r1, b0, if_true, if_false, nI_1]
      · have hnd : ∀ i, i < D.n → D.ord i ≠ v := fun i hi e => qd ⟨i, hi, e⟩
        rw [q7 v hv60 hnd] at ev
        by_cases qm : v < m
        · have e2 : nI v < nI m := nI_lt qm (by omega)
          refine goal0 (fun z => ?_) ?_
          · rcases U.rch_In hw hu z with ⟨i, hi, e⟩ | ⟨k, _, _, e⟩
            · exact hnd i hi e.symm
            · omega
          · simp (maxSteps := 3000000) (disch := omega) only [Option.bind_some, tc_bs, tq_let, tc_I1, tc_I2, tc_J1, tc_J2, tc_J3, tc_F1, tc_F2, tc_F3, tc_F4, tc_G1, tc_G2, tc_G3, tc_G4, tc_G5, tc_us, tc_un, s_one, s_holds, s_J13_bitCount, bz_bI, f_X11_apply_b63, hM.f, s0, e0, e1, ev, e2, if_true, if_false, nI_1]
        · have e2 : ¬ nI v < nI m := nI_nlt (by omega) (by omega)
          obtain ⟨k, k1, k2, k3⟩ := fb_ct_kth (p := fun j => decide (U.uw j = 0)) (n := U.n) (k := v - m) (by show v - m < U.ins U.n; omega)
          have k2 := of_decide_eq_true k2
          have k3 : U.ins k = v - m := k3
          obtain ⟨r, r1, r2⟩ := hh (.inr ⟨k, k1, k2, by omega⟩)
          cases r with
          | true =>
            refine goal1 (r2.mp rfl) ?_
            simp (maxSteps := 3000000) (disch := omega) only [Option.bind_some, tc_bs, tq_let, tc_I1, tc_I2, tc_J1, tc_J2, tc_J3, tc_F1, tc_F2, tc_F3, tc_F4, tc_G1, tc_G2, tc_G3, tc_G4, tc_G5, tc_us, tc_un, s_one, s_holds, s_J13_bitCount, bz_bI, f_X11_apply_b63, hM.f, s1, e0, e1, ev, e2, r1, b1, if_true, if_false, nI_1]
          | false =>
            refine goal0 (fun z => Bool.noConfusion (r2.mpr z)) ?_
            simp (maxSteps := 3000000) (disch := omega) only [Option.bind_some, tc_bs, tq_let, tc_I1, tc_I2, tc_J1, tc_J2, tc_J3, tc_F1, tc_F2, tc_F3, tc_F4, tc_G1, tc_G2, tc_G3, tc_G4, tc_G5, tc_us, tc_un, s_one, s_holds, s_J13_bitCount, bz_bI, f_X11_apply_b63, hM.f, s0, e0, e1, ev, e2, r1, b0, if_true, if_false, nI_1]) (fun y hy => by
      have e0 : y.2.2.1 155 1 = nI (m + U.ins U.n) := by rw [hy.2.2.2]; exact q1
      have e1 : nI (m + U.ins U.n) ≥ nI (m + U.ins U.n) := Int32.le_refl _
      simp (maxSteps := 3000000) (disch := omega) only [Option.bind_some, tc_bs, tq_let, tc_I1, tc_I2, tc_J1, tc_J2, tc_J3, tc_F1, tc_F2, tc_F3, tc_F4, tc_G1, tc_G2, tc_G3, tc_G4, tc_G5, tc_us, tc_un, s_one, s_holds, s_J13_bitCount, bz_bI, f_X11_apply_b63, hM.f, e0, e1, if_true]) (x := c) ⟨fun u h => absurd h (Nat.not_lt_zero _), fun _ _ => rfl, fun _ _ => rfl, rfl⟩
  refine ⟨y, y1, ⟨by rw [y5]; exact q1, ⟨hr, fun v hv => U.in_lt hu (U.rch_In hw hu hv)⟩, fun v hv => ?_, fun v hv => ?_, ?_, fun v w _ hvw => ?_, fun v X w Y hv hF hk => ?_⟩, y4, y5⟩
  · by_cases q : v < m + U.ins U.n
    · exact y2 v q
    · have hno : ¬ Rch (U.F m D) v := fun z => q (U.in_lt hu (U.rch_In hw hu z))
      refine ⟨fun z => absurd z hno, fun _ => ?_⟩
      rw [y3 v (by omega)]
      exact q7 v hv fun i hi e => by have := hu.1.2.2 i hi; omega
  · rw [y4 156 (by decide), y4 157 (by decide), y4 158 (by decide), y4 159 (by decide)]
    exact q2 v (U.rch_In hw hu hv)
  · rw [y4 160 (by decide)]
    exact q4 0 (.inl ⟨0, D.n_pos hw, (D.ord_0 hw).symm⟩) fun v z => (hf.1 v 0 z).2.2 rfl
  · rw [y4 160 (by decide)]; exact q3 v w hvw
  · rw [y4 161 (by decide)]
    obtain ⟨i, i1, i2, i3, -⟩ := (U.F_mem hw).mp (show w ∈ U.F m D v by rw [hF]; simp)
    rw [← i2, U.F_at hw i1, if_pos i3] at hF
    have hfl : U.fL m D i = cutL (U.aL m D i) 8 ++ U.KL m D i := rfl
    rw [hfl] at hF
    have hAk : ∀ u, u ∈ cutL (U.aL m D i) 8 → (U.new m D).1 u = 2 := fun u hu2 => by
      obtain ⟨x, -, h⟩ := cutL_mem.mp hu2
      exact (U.aL_kd hw hu h).1
    have hKk : ∀ u, u ∈ U.KL m D i → (U.new m D).1 u ≠ 2 := fun u hu2 => by
      obtain ⟨x, -, h⟩ := cutL_mem.mp hu2
      exact U.kL_kd hw hu h
    have main : ∀ as, X = cutL (U.aL m D i) 8 ++ as → U.KL m D i = as ++ w :: Y → c.1 161 w = nI (X.filter (fun u => decide ((U.new m D).1 u ≠ 2))).length := fun as h1 h2 => by
      have hq : as.length < (U.KL m D i).length := by rw [h2]; simp
      have hat : (U.KL m D i).getD as.length 0 = w := by rw [gD _ _ hq]; simp [h2]
      have := q5 i i1 i3 as.length hq
      rw [hat] at this
      rw [this, h1, List.filter_append]
      have f1 : (cutL (U.aL m D i) 8).filter (fun u => decide ((U.new m D).1 u ≠ 2)) = [] := by
        rw [List.filter_eq_nil_iff]
        intro u hu2 h
        exact (of_decide_eq_true h) (hAk u hu2)
      have f2 : as.filter (fun u => decide ((U.new m D).1 u ≠ 2)) = as := by
        rw [List.filter_eq_self]
        intro u hu2
        exact decide_eq_true (hKk u (by rw [h2]; exact List.mem_append_left _ hu2))
      rw [f1, f2]; rfl
    rcases List.append_eq_append_iff.mp hF with ⟨as, h1, h2⟩ | ⟨bs, h1, h2⟩
    · exact main as h1 h2
    · cases bs with
      | nil =>
        rw [List.nil_append] at h2
        rw [List.append_nil] at h1
        exact main [] (by rw [h1, List.append_nil]) h2.symm
      | cons b bs =>
        exfalso
        rw [List.cons_append, List.cons.injEq] at h2
        exact hk (hAk w (by rw [h1, h2.1]; simp))
end RRS
