/-! ===== the reference lays the children of one element ===== -/
/-- a list has been laid below E -/
def LayK (c0 c : tc_C) (E : Nat) (P : List Nat) : Prop :=
  (∀ q, q < P.length → c.1 161 (P.getD q 0) = nI q ∧ c.1 160 (P.getD q 0) = nI E) ∧ (∀ w, w ∉ P → c.1 160 w = c0.1 160 w ∧ c.1 161 w = c0.1 161 w) ∧
  (∀ a, a ≠ 160 → a ≠ 161 → c.1 a = c0.1 a) ∧ c.2 = c0.2
/-- what stands while the children are laid -/
abbrev PCh (S : tq_H) (c : tc_C) (z m : Nat) (D : Doc) (U : Ups) : Prop :=
  tc_Mod S z ∧ (D.wf ∧ U.wf m D ∧ U.ok ∧ m + U.ins U.n ≤ 60) ∧ UR c U ∧ c.2.2.1 155 1 = nI m ∧ RMem c D ∧ ∀ i, i < D.n → c.1 156 (D.ord i) = D.kd i
def Ups.cn (D : Doc) (i : Nat) : Nat := fb_ct (D.ax 1 i) 64
section RLK
variable {S : tq_H} {c c' c'' c0 : tc_C} {z m i j k v w K E p n : Nat} {U : Ups} {D : Doc} {P : List Nat}
theorem LayK.nil (c : tc_C) (E : Nat) : LayK c c E [] := ⟨fun q h => absurd h (Nat.not_lt_zero _), fun _ _ => ⟨rfl, rfl⟩, fun _ _ _ => rfl, rfl⟩
theorem getD_app (P : List Nat) (w q : Nat) : (P ++ [w]).getD q 0 = if q < P.length then P.getD q 0 else if q = P.length then w else 0 := by
  by_cases h : q < P.length
  · rw [if_pos h, gD _ _ (by rw [List.length_append]; omega), gD _ _ h, List.getElem_append_left h]
  · rw [if_neg h]
    by_cases e : q = P.length
    · subst e
      rw [if_pos rfl, gD _ _ (by simp)]; simp
    · rw [if_neg e]
      show ((P ++ [w])[q]?).getD 0 = 0
      rw [List.getElem?_eq_none (by rw [List.length_append, List.length_singleton]; omega)]; rfl
theorem LayK.add (h : LayK c0 c E P) (hw : w ∉ P) (h1 : c'.1 161 = upd (c.1 161) w (nI P.length)) (h2 : c'.1 160 = upd (c.1 160) w (nI E)) (h3 : ∀ a, a ≠ 160 → a ≠ 161 → c'.1 a = c.1 a) (h4 : c'.2 = c.2) : LayK c0 c' E (P ++ [w]) := by
  obtain ⟨g1, g2, g3, g4⟩ := h
  refine ⟨fun q hq => ?_, fun x hx => ?_, fun a z1 z2 => (h3 a z1 z2).trans (g3 a z1 z2), h4.trans g4⟩
  · rw [getD_app, h1, h2]
    rw [List.length_append, List.length_singleton] at hq
    by_cases e : q < P.length
    · rw [if_pos e]
      have hne : P.getD q 0 ≠ w := fun z => hw (by rw [← z, gD _ _ e]; exact List.getElem_mem e)
      rw [upd_n _ _ hne, upd_n _ _ hne]
      exact g1 q e
    · have e2 : q = P.length := by omega
      rw [if_neg e, if_pos e2, upd_s, upd_s, e2]
      exact ⟨rfl, rfl⟩
  · rw [List.mem_append, List.mem_singleton, not_or] at hx
    rw [h1, h2, upd_n _ _ hx.2, upd_n _ _ hx.2]
    exact g2 x hx.1
theorem UR.cg (h : UR c U) (h1 : c'.1 167 = c.1 167) (h2 : c'.2 = c.2) : UR c' U := by
  unfold UR; rw [h1, h2]; exact h
theorem RMem.cg (h : RMem c D) (h1 : ∀ a, 168 ≤ a → a ≤ 173 → c'.1 a = c.1 a) : RMem c' D := by
  unfold RMem
  rw [h1 168 (by omega) (by omega), h1 169 (by omega) (by omega), h1 170 (by omega) (by omega), h1 171 (by omega) (by omega), h1 172 (by omega) (by omega), h1 173 (by omega) (by omega)]
  exact h
theorem PCh.lk (h : PCh S c0 z m D U) (g : LayK c0 c E P) : PCh S c z m D U := by
  obtain ⟨h1, h2, h3, h4, h5, h6⟩ := h
  obtain ⟨-, -, g3, g4⟩ := g
  refine ⟨h1, h2, h3.cg (g3 167 (by omega) (by omega)) g4, by rw [g4]; exact h4, h5.cg (fun a _ _ => g3 a (by omega) (by omega)), ?_⟩
  rw [g3 156 (by omega) (by omega)]; exact h6
theorem Doc.ax1 : D.ax 1 i j = true ↔ j < D.n ∧ 0 < j ∧ D.up j = i ∧ D.kd j ≠ 2 := by simp [Doc.ax]
theorem s_X11_isListed (hM : tc_Mod S z) (hw : D.wf) (hu : U.wf m D) (hUR : UR c U) (hv : v < 60) {a : Nat} (ha : a ≤ 5) (ha0 : a ≠ 0) :
    f_X11_isListed 155 (nI v) (nI a) (tc_mk S c) = some (bI (anyB (fun j => decide (U.uw j = a ∧ U.ut j = v)) U.n)) := by
  obtain ⟨u1, u2, u3, u4, -⟩ := hUR
  have W := tc_iter (B := f_X11_isListed_b5 155 (nI v) (nI a) (tc_mk S c)) U.n (fun j => (bI (anyB (fun j => decide (U.uw j = a ∧ U.ut j = v)) j), nI j)) (e := bI (anyB (fun j => decide (U.uw j = a ∧ U.ut j = v)) U.n)) (fun j hj => ?_) ?_ (by unfold tq_N; omega)
  · have W : tq_loop (f_X11_isListed_b5 155 (nI v) (nI a) (tc_mk S c)) tq_N ((0 : Int32), (0 : Int32)) = some (bI (anyB (fun j => decide (U.uw j = a ∧ U.ut j = v)) U.n)) := W
    unfold f_X11_isListed
    rw [W, Option.bind_some, bz_bI, Option.bind_some]
  · obtain ⟨x0, x1, -⟩ := u7 j
    have a1 := u3 j hj
    have a2 := u4 j hj
    have w1 := hu.2.1 j hj
    have e1 : ¬ nI j ≥ nI U.n := nI_ge hj (by omega)
    rw [anyB]
    cases anyB (fun j => decide (U.uw j = a ∧ U.ut j = v)) j with
    | true =>
      have e2 : ¬ bI true = 0 := by decide
      rw [Bool.true_or]
      simp (maxSteps := 3000000) (disch := omega) only [Option.bind_some, tc_bs, tq_let, tc_I1, tc_I2, tc_J1, tc_J2, tc_J3, tc_F1, tc_F2, tc_F3, tc_F4, tc_G1, tc_G2, tc_G3, tc_G4, tc_G5, tc_us, tc_un, s_one, s_holds, s_J13_bitCount, bz_bI, f_X11_isListed_b5, hM.f, u1, e1, e2, if_false, nI_1]; rfl
    | false =>
      have e2 : bI false = 0 := rfl
      rw [Bool.false_or]
      by_cases q : U.uw j = a
      · rw [if_neg (by omega)] at a2
        have ht := Ups.ut_lt hw hu hj (by omega)
        rw [q] at a1
        by_cases q2 : U.ut j = v
        · rw [decide_eq_true ⟨q, q2⟩]
          rw [q2] at a2
          simp (maxSteps := 3000000) (disch := omega) only [Option.bind_some, tc_bs, tq_let, tc_I1, tc_I2, tc_J1, tc_J2, tc_J3, tc_F1, tc_F2, tc_F3, tc_F4, tc_G1, tc_G2, tc_G3, tc_G4, tc_G5, tc_us, tc_un, s_one, s_holds, s_J13_bitCount, bz_bI, f_X11_isListed_b5, hM.f, u1, e1, e2, x0, x1, a1, a2, if_true, if_false, nI_1]; rfl
        · have n1 : ¬ nI (U.ut j) = nI v := fun z => q2 ((nI_eq (by omega) (by omega)).mp z)
          rw [decide_eq_false (fun z => q2 z.2)]
          simp (maxSteps := 3000000) (disch := omega) only [Option.bind_some, tc_bs, tq_let, tc_I1, tc_I2, tc_J1, tc_J2, tc_J3, tc_F1, tc_F2, tc_F3, tc_F4, tc_G1, tc_G2, tc_G3, tc_G4, tc_G5, tc_us, tc_un, s_one, s_holds, s_J13_bitCount, bz_bI, f_X11_isListed_b5, hM.f, u1, e1, e2, x0, x1, a1, a2, n1, if_true, if_false, nI_1]
      · have n1 : ¬ nI (U.uw j) = nI a := fun z => q ((nI_eq (by omega) (by omega)).mp z)
        rw [decide_eq_false (fun z => q z.1)]
        simp (maxSteps := 3000000) (disch := omega) only [Option.bind_some, tc_bs, tq_let, tc_I1, tc_I2, tc_J1, tc_J2, tc_J3, tc_F1, tc_F2, tc_F3, tc_F4, tc_G1, tc_G2, tc_G3, tc_G4, tc_G5, tc_us, tc_un, s_one, s_holds, s_J13_bitCount, bz_bI, f_X11_isListed_b5, hM.f, u1, e1, e2, x0, a1, n1, if_true, if_false, nI_1]
  · have e1 : nI U.n ≥ nI U.n := Int32.le_refl _
    simp (maxSteps := 3000000) (disch := omega) only [Option.bind_some, tc_bs, tq_let, tc_I1, tc_I2, tc_J1, tc_J2, tc_J3, tc_F1, tc_F2, tc_F3, tc_F4, tc_G1, tc_G2, tc_G3, tc_G4, tc_G5, tc_us, tc_un, s_one, s_holds, s_J13_bitCount, bz_bI, f_X11_isListed_b5, hM.f, u1, e1, if_true]
theorem s_X11_nodeOf (hM : tc_Mod S z) (hu : U.wf m D) (hUR : UR c U) (h1 : c.2.2.1 155 1 = nI m) (hk : k < U.n) : f_X11_nodeOf 155 (nI k) (tc_mk S c) = some (nI (U.sj m k)) := by
  obtain ⟨u1, u2, u3, u4, -⟩ := hUR
  have W := tc_iter (B := f_X11_nodeOf_b7 155 (nI k) (tc_mk S c)) k (fun j => (nI (m + U.ins j), nI j)) (e := nI (m + U.ins k)) (fun j hj => ?_) ?_ (by unfold tq_N; omega)
  · have W : tq_loop (f_X11_nodeOf_b7 155 (nI k) (tc_mk S c)) tq_N (nI m, (0 : Int32)) = some (nI (m + U.ins k)) := W
    obtain ⟨x0, x1, -⟩ := u7 k
    have a1 := u3 k hk
    have a2 := u4 k hk
    have w1 := hu.2.1 k hk
    unfold Ups.sj
    by_cases q : U.uw k = 0
    · rw [q] at a1
      have a1 : c.1 167 (7 * k) = 0 := a1
      rw [if_pos q]
      simp (maxSteps := 3000000) (disch := omega) only [Option.bind_some, tc_bs, tq_let, tc_I1, tc_I2, tc_J1, tc_J2, tc_J3, tc_F1, tc_F2, tc_F3, tc_F4, tc_G1, tc_G2, tc_G3, tc_G4, tc_G5, tc_us, tc_un, s_one, s_holds, s_J13_bitCount, bz_bI, f_X11_nodeOf, hM.f, h1, W, x0, a1, if_true]
    · have e2 : ¬ nI (U.uw k) = 0 := nI_ne0 (by omega) (by omega)
      rw [if_neg q] at a2 ⊢
      simp (maxSteps := 3000000) (disch := omega) only [Option.bind_some, tc_bs, tq_let, tc_I1, tc_I2, tc_J1, tc_J2, tc_J3, tc_F1, tc_F2, tc_F3, tc_F4, tc_G1, tc_G2, tc_G3, tc_G4, tc_G5, tc_us, tc_un, s_one, s_holds, s_J13_bitCount, bz_bI, f_X11_nodeOf, hM.f, h1, W, x0, x1, a1, a2, e2, if_false]
  · obtain ⟨x0, x1, -⟩ := u7 j
    have a1 := u3 j (by omega)
    have w1 := hu.2.1 j (by omega)
    have e1 : ¬ nI j ≥ nI k := nI_ge hj (by omega)
    rw [U.ins_s]
    by_cases q : U.uw j = 0
    · rw [if_pos q]
      rw [q] at a1
      have a1 : c.1 167 (7 * j) = 0 := a1
      simp (maxSteps := 3000000) (disch := omega) only [Option.bind_some, tc_bs, tq_let, tc_I1, tc_I2, tc_J1, tc_J2, tc_J3, tc_F1, tc_F2, tc_F3, tc_F4, tc_G1, tc_G2, tc_G3, tc_G4, tc_G5, tc_us, tc_un, s_one, s_holds, s_J13_bitCount, bz_bI, f_X11_nodeOf_b7, hM.f, e1, x0, a1, if_true, if_false, nI_1]; rfl
    · rw [if_neg q]
      have e2 : ¬ nI (U.uw j) = 0 := nI_ne0 (by omega) (by omega)
      have e3 : nI (m + U.ins j) + 0 = nI (m + U.ins j) := by rw [show (0 : Int32) = nI 0 from rfl, nI_add]; rfl
      simp (maxSteps := 3000000) (disch := omega) only [Option.bind_some, tc_bs, tq_let, tc_I1, tc_I2, tc_J1, tc_J2, tc_J3, tc_F1, tc_F2, tc_F3, tc_F4, tc_G1, tc_G2, tc_G3, tc_G4, tc_G5, tc_us, tc_un, s_one, s_holds, s_J13_bitCount, bz_bI, f_X11_nodeOf_b7, hM.f, e1, x0, a1, e2, e3, if_true, if_false, nI_1]; rfl
  · have e1 : nI k ≥ nI k := Int32.le_refl _
    simp (maxSteps := 3000000) (disch := omega) only [Option.bind_some, tc_bs, tq_let, tc_I1, tc_I2, tc_J1, tc_J2, tc_J3, tc_F1, tc_F2, tc_F3, tc_F4, tc_G1, tc_G2, tc_G3, tc_G4, tc_G5, tc_us, tc_un, s_one, s_holds, s_J13_bitCount, bz_bI, f_X11_nodeOf_b7, e1, if_true]
theorem Ups.sj_lt (hw : D.wf) (hu : U.wf m D) (hr : m + U.ins U.n ≤ 60) (hk : k < U.n) : U.sj m k < 60 := by
  unfold Ups.sj
  split
  · rename_i q
    have := U.ins_lt q hk; omega
  · rename_i q
    exact Ups.ut_lt hw hu hk q
/-- the updates that go to one place -/
theorem PCh.at14 (h : PCh S c0 z m D U) (hi : i < D.n) (hL : LayK c0 c (D.ord i) P) (hp1 : p < 100) (hnd : (P ++ cutL (U.kn m D i p) U.n).Nodup) (x : Int32) :
    ∃ c', tq_loop (f_X11_layChildren_b14 155 (nI (D.ord i)) x (nI p)) tq_N (nI P.length, (0 : Int32), tc_mk S c) = some (nI (P ++ cutL (U.kn m D i p) U.n).length, tc_mk S c') ∧ LayK c0 c' (D.ord i) (P ++ cutL (U.kn m D i p) U.n) := by
  have hn20 := h.2.2.1.2.1
  obtain ⟨y, y1, y2⟩ := tc_run (B := f_X11_layChildren_b14 155 (nI (D.ord i)) x (nI p)) U.n
    (fun k y => (nI (P ++ cutL (U.kn m D i p) k).length, nI k, tc_mk S y)) (fun k y => LayK c0 y (D.ord i) (P ++ cutL (U.kn m D i p) k)) (fun y => (nI (P ++ cutL (U.kn m D i p) U.n).length, tc_mk S y)) (by omega) (fun k y hk hy => by
      have hC := h.lk hy
      obtain ⟨hM, ⟨hw, hu, hok, hr⟩, hUR, h1, -, -⟩ := hC
      have hsj := Ups.sj_lt hw hu hr hk
      have en := s_X11_nodeOf hM hu hUR h1 hk
      obtain ⟨u1, u2, u3, u4, u5, u6, u7', -⟩ := hUR
      obtain ⟨x0, x1, x2, x3, x4, -⟩ := u7 k
      have a1 := u3 k hk
      have w1 := hu.2.1 k hk
      have e1 : ¬ nI k ≥ nI U.n := nI_ge hk (by omega)
      have hiE := D.ord_lt hw hi
      have hkn : U.kn m D i p k = if U.ik k (D.ord i) p then [U.sj m k] else [] := rfl
      have hpre : (P ++ cutL (U.kn m D i p) k) ++ U.kn m D i p k <+: P ++ cutL (U.kn m D i p) U.n := pre_cut (List.prefix_refl _) hk
      rw [cutL_succ, ← List.append_assoc]
      generalize P ++ cutL (U.kn m D i p) k = Q at *
      by_cases q : U.uw k = 4 ∨ (U.uw k = 0 ∧ U.uk k ≠ 2)
      · have a2 := u5 k hk (by omega)
        have a3 := u6 k hk q
        have hup : U.up k < 60 ∧ U.ul k ≤ 64 := by
          obtain ⟨t, t1, t2, -, t4⟩ := hu.2.2.2.1 k hk (by omega)
          refine ⟨by rw [t2]; exact D.ord_lt hw t1, ?_⟩
          rcases t4 with t4 | t4
          · omega
          · exact Nat.le_trans t4 (fb_ct_le _ _)
        have n10 : ¬ (1 : Int32) = 0 := by decide
        have n04 : ¬ (0 : Int32) = 4 := by decide
        have hmain : U.ik k (D.ord i) p = true → ∃ y', f_X11_layChildren_b14 155 (nI (D.ord i)) x (nI p) (nI Q.length, nI k, tc_mk S y) = some (.inl (nI (Q.length + 1), nI (k + 1), tc_mk S y')) ∧ y'.1 161 = upd (y.1 161) (U.sj m k) (nI Q.length) ∧ y'.1 160 = upd (y.1 160) (U.sj m k) (nI (D.ord i)) ∧ (∀ a, a ≠ 160 → a ≠ 161 → y'.1 a = y.1 a) ∧ y'.2 = y.2 := fun hik => by
          obtain ⟨-, r1, r2⟩ := of_decide_eq_true hik
          rw [r1] at a2
          rw [r2] at a3
          rcases q with q | ⟨q, q'⟩
          · rw [q] at a1
            have a1 : y.1 167 (7 * k) = 4 := a1
            refine ⟨_, by simp (maxSteps := 3000000) (disch := omega) only [Option.bind_some, tc_bs, tq_let, tc_I1, tc_I2, tc_J1, tc_J2, tc_J3, tc_F1, tc_F2, tc_F3, tc_F4, tc_G1, tc_G2, tc_G3, tc_G4, tc_G5, tc_us, tc_un, s_one, s_holds, s_J13_bitCount, bz_bI, f_X11_layChildren_b14, hM.f, u1, e1, x0, x2, x3, a1, n10, a2, a3, en, if_true, if_false, nI_1]; rfl, ?_, ?_, fun a z1 z2 => ?_, ?_⟩
            · simp (maxSteps := 3000000) (disch := omega) only [Option.bind_some, tc_bs, tq_let, tc_I1, tc_I2, tc_J1, tc_J2, tc_J3, tc_F1, tc_F2, tc_F3, tc_F4, tc_G1, tc_G2, tc_G3, tc_G4, tc_G5, tc_us, tc_un, s_one, s_holds, s_J13_bitCount, bz_bI, if_true]
            · simp (maxSteps := 3000000) (disch := omega) only [Option.bind_some, tc_bs, tq_let, tc_I1, tc_I2, tc_J1, tc_J2, tc_J3, tc_F1, tc_F2, tc_F3, tc_F4, tc_G1, tc_G2, tc_G3, tc_G4, tc_G5, tc_us, tc_un, s_one, s_holds, s_J13_bitCount, bz_bI, if_true]
            · simp (maxSteps := 3000000) (disch := omega) only [Option.bind_some, tc_bs, tq_let, tc_I1, tc_I2, tc_J1, tc_J2, tc_J3, tc_F1, tc_F2, tc_F3, tc_F4, tc_G1, tc_G2, tc_G3, tc_G4, tc_G5, tc_us, tc_un, s_one, s_holds, s_J13_bitCount, bz_bI, if_true]
            · rfl
          · rw [q] at a1
            have a1 : y.1 167 (7 * k) = 0 := a1
            have a4 := (u7' k hk q).1
            have n2 : ¬ nI (U.uk k) = 2 := fun z => by
              rcases hu.2.2.2.2.1 k hk q with ⟨y, -⟩ | ⟨y, -⟩ | ⟨y, -⟩ <;> rw [y] at z
              · exact absurd z (by decide)
              · exact absurd z (by decide)
              · exact q' y
            refine ⟨_, by simp (maxSteps := 3000000) (disch := omega) only [Option.bind_some, tc_bs, tq_let, tc_I1, tc_I2, tc_J1, tc_J2, tc_J3, tc_F1, tc_F2, tc_F3, tc_F4, tc_G1, tc_G2, tc_G3, tc_G4, tc_G5, tc_us, tc_un, s_one, s_holds, s_J13_bitCount, bz_bI, f_X11_layChildren_b14, hM.f, u1, e1, x0, x2, x3, x4, a1, a4, n2, n10, n04, a2, a3, en, if_true, if_false, nI_1]; rfl, ?_, ?_, fun a z1 z2 => ?_, ?_⟩
            · simp (maxSteps := 3000000) (disch := omega) only [Option.bind_some, tc_bs, tq_let, tc_I1, tc_I2, tc_J1, tc_J2, tc_J3, tc_F1, tc_F2, tc_F3, tc_F4, tc_G1, tc_G2, tc_G3, tc_G4, tc_G5, tc_us, tc_un, s_one, s_holds, s_J13_bitCount, bz_bI, if_true]
            · simp (maxSteps := 3000000) (disch := omega) only [Option.bind_some, tc_bs, tq_let, tc_I1, tc_I2, tc_J1, tc_J2, tc_J3, tc_F1, tc_F2, tc_F3, tc_F4, tc_G1, tc_G2, tc_G3, tc_G4, tc_G5, tc_us, tc_un, s_one, s_holds, s_J13_bitCount, bz_bI, if_true]
            · simp (maxSteps := 3000000) (disch := omega) only [Option.bind_some, tc_bs, tq_let, tc_I1, tc_I2, tc_J1, tc_J2, tc_J3, tc_F1, tc_F2, tc_F3, tc_F4, tc_G1, tc_G2, tc_G3, tc_G4, tc_G5, tc_us, tc_un, s_one, s_holds, s_J13_bitCount, bz_bI, if_true]
            · rfl
        have hskip : U.ik k (D.ord i) p = false → f_X11_layChildren_b14 155 (nI (D.ord i)) x (nI p) (nI Q.length, nI k, tc_mk S y) = some (.inl (nI Q.length, nI (k + 1), tc_mk S y)) := fun hik => by
          have hik := of_decide_eq_false hik
          by_cases r1 : U.up k = D.ord i
          · have r2 : ¬ U.ul k = p := fun z => hik ⟨q, r1, z⟩
            have n3 : ¬ nI (U.ul k) = nI p := fun z => r2 ((nI_eq (by omega) (by omega)).mp z)
            rw [r1] at a2
            rcases q with q | ⟨q, q'⟩
            · rw [q] at a1
              have a1 : y.1 167 (7 * k) = 4 := a1
              simp (maxSteps := 3000000) (disch := omega) only [Option.bind_some, tc_bs, tq_let, tc_I1, tc_I2, tc_J1, tc_J2, tc_J3, tc_F1, tc_F2, tc_F3, tc_F4, tc_G1, tc_G2, tc_G3, tc_G4, tc_G5, tc_us, tc_un, s_one, s_holds, s_J13_bitCount, bz_bI, f_X11_layChildren_b14, hM.f, u1, e1, x0, x2, x3, a1, n10, a2, a3, n3, en, if_true, if_false, nI_1]
            · rw [q] at a1
              have a1 : y.1 167 (7 * k) = 0 := a1
              have a4 := (u7' k hk q).1
              have n2 : ¬ nI (U.uk k) = 2 := fun z => by
                rcases hu.2.2.2.2.1 k hk q with ⟨y, -⟩ | ⟨y, -⟩ | ⟨y, -⟩ <;> rw [y] at z
                · exact absurd z (by decide)
                · exact absurd z (by decide)
                · exact q' y
              simp (maxSteps := 3000000) (disch := omega) only [Option.bind_some, tc_bs, tq_let, tc_I1, tc_I2, tc_J1, tc_J2, tc_J3, tc_F1, tc_F2, tc_F3, tc_F4, tc_G1, tc_G2, tc_G3, tc_G4, tc_G5, tc_us, tc_un, s_one, s_holds, s_J13_bitCount, bz_bI, f_X11_layChildren_b14, hM.f, u1, e1, x0, x2, x3, x4, a1, a4, n2, n10, n04, a2, a3, n3, en, if_true, if_false, nI_1]
          · have n3 : ¬ nI (U.up k) = nI (D.ord i) := fun z => r1 ((nI_eq (by omega) (by omega)).mp z)
            rcases q with q | ⟨q, q'⟩
            · rw [q] at a1
              have a1 : y.1 167 (7 * k) = 4 := a1
              simp (maxSteps := 3000000) (disch := omega) only [Option.bind_some, tc_bs, tq_let, tc_I1, tc_I2, tc_J1, tc_J2, tc_J3, tc_F1, tc_F2, tc_F3, tc_F4, tc_G1, tc_G2, tc_G3, tc_G4, tc_G5, tc_us, tc_un, s_one, s_holds, s_J13_bitCount, bz_bI, f_X11_layChildren_b14, hM.f, u1, e1, x0, x2, x3, a1, n10, a2, n3, en, if_true, if_false, nI_1]
            · rw [q] at a1
              have a1 : y.1 167 (7 * k) = 0 := a1
              have a4 := (u7' k hk q).1
              have n2 : ¬ nI (U.uk k) = 2 := fun z => by
                rcases hu.2.2.2.2.1 k hk q with ⟨y, -⟩ | ⟨y, -⟩ | ⟨y, -⟩ <;> rw [y] at z
                · exact absurd z (by decide)
                · exact absurd z (by decide)
                · exact q' y
              simp (maxSteps := 3000000) (disch := omega) only [Option.bind_some, tc_bs, tq_let, tc_I1, tc_I2, tc_J1, tc_J2, tc_J3, tc_F1, tc_F2, tc_F3, tc_F4, tc_G1, tc_G2, tc_G3, tc_G4, tc_G5, tc_us, tc_un, s_one, s_holds, s_J13_bitCount, bz_bI, f_X11_layChildren_b14, hM.f, u1, e1, x0, x2, x3, x4, a1, a4, n2, n10, n04, a2, n3, en, if_true, if_false, nI_1]
        cases hik : U.ik k (D.ord i) p with
        | true =>
          rw [hkn, if_pos hik] at hpre ⊢
          obtain ⟨y', z1, z2, z3, z4, z5⟩ := hmain hik
          have hnotin : U.sj m k ∉ Q := fun hin => by
            have := (hpre.sublist.nodup hnd)
            exact (List.nodup_append.mp this).2.2 _ hin _ (by simp) rfl
          refine ⟨y', ?_, hy.add hnotin z2 z3 z4 z5⟩
          rw [List.length_append, List.length_singleton]
          exact z1
        | false =>
          rw [hkn, hik, if_neg (by decide), List.append_nil]
          exact ⟨y, hskip hik, hy⟩
      · have hik : U.ik k (D.ord i) p = false := decide_eq_false (fun z => q z.1)
        rw [hkn, hik, if_neg (by decide), List.append_nil]
        refine ⟨y, ?_, hy⟩
        by_cases q0 : U.uw k = 0
        · have q2 : U.uk k = 2 := by omega
          have a4 := (u7' k hk q0).1
          rw [q0] at a1
          rw [q2] at a4
          have a1 : y.1 167 (7 * k) = 0 := a1
          have a4 : y.1 167 (7 * k + 4) = 2 := a4
          have n04 : ¬ (0 : Int32) = 4 := by decide
          simp (maxSteps := 3000000) (disch := omega) only [Option.bind_some, tc_bs, tq_let, tc_I1, tc_I2, tc_J1, tc_J2, tc_J3, tc_F1, tc_F2, tc_F3, tc_F4, tc_G1, tc_G2, tc_G3, tc_G4, tc_G5, tc_us, tc_un, s_one, s_holds, s_J13_bitCount, bz_bI, f_X11_layChildren_b14, hM.f, u1, e1, x0, x4, a1, a4, n04, if_true, if_false, nI_1]
        · have e2 : ¬ nI (U.uw k) = 0 := nI_ne0 (by omega) (by omega)
          have e4 : ¬ nI (U.uw k) = 4 := fun z => by
            have := (nI_eq (show U.uw k < 2 ^ 31 by omega) (show 4 < 2 ^ 31 by decide)).mp z
            exact q (.inl this)
          simp (maxSteps := 3000000) (disch := omega) only [Option.bind_some, tc_bs, tq_let, tc_I1, tc_I2, tc_J1, tc_J2, tc_J3, tc_F1, tc_F2, tc_F3, tc_F4, tc_G1, tc_G2, tc_G3, tc_G4, tc_G5, tc_us, tc_un, s_one, s_holds, s_J13_bitCount, bz_bI, f_X11_layChildren_b14, hM.f, u1, e1, x0, a1, e2, e4, if_true, if_false, nI_1]) (fun y hy => by
      have hC := h.lk hy
      obtain ⟨hM, -, ⟨u1, -⟩, -⟩ := hC
      have e1 : nI U.n ≥ nI U.n := Int32.le_refl _
      simp (maxSteps := 3000000) (disch := omega) only [Option.bind_some, tc_bs, tq_let, tc_I1, tc_I2, tc_J1, tc_J2, tc_J3, tc_F1, tc_F2, tc_F3, tc_F4, tc_G1, tc_G2, tc_G3, tc_G4, tc_G5, tc_us, tc_un, s_one, s_holds, s_J13_bitCount, bz_bI, f_X11_layChildren_b14, hM.f, u1, e1, if_true]) (x := c) (by rw [cutL_0, List.append_nil]; exact hL)
  rw [cutL_0, List.append_nil] at y1
  exact ⟨y, y1, y2⟩
end RLK
