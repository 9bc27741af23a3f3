/-! ===== hidden paths; views ===== -/
abbrev h1w (a : Nat) : Prop := a = 181
abbrev h3w (q k : Nat) : Prop := (q = 0 ∧ k = 18) ∨ (q = 155 ∧ (k = 33 ∨ k = 0))
abbrev h4w (q k : Nat) : Prop := q = 0 ∧ k = 15
abbrev v1w (a : Nat) : Prop := a = 150 ∨ a = 152 ∨ a = 191 ∨ a = 192 ∨ a = 182
abbrev v2w (a : Nat) : Prop := a = 193 ∨ a = 205 ∨ a = 179 ∨ a = 180
abbrev v4w (q _k : Nat) : Prop := q = 155
abbrev v3w (q k : Nat) : Prop := (q = 0 ∧ k = 13) ∨ (q = 155 ∧ (k = 45 ∨ k = 0))
section HID
variable {S : tq_H} {c c' c1 c2 : tc_C} {di : DI} {D : Doc} {m : Nat} {U : Ups} {P : Pat} {H H' : Nat → Bool} {Z Z' : Sma} {X Y : Nat → Bool} {nw nw' : Nat} {ed : Option Nat} {nv : Nat} {vt mv : Nat → Nat} {Dv : Nat → Doc} {t n s i p k v z : Nat} {x x1 x2 x3 x4 y4 : Int32} {xs : Nat → Int32} {h0 : tq_H}
theorem Cor.hid (h : Cor S c di D m U P H Z X nw ed nv vt mv Dv) (hF : GF c D P H) (k : Wr h1w u2 h3w h4w c c') (hr : GR c' P H') (hs : c'.2.2.1 0 18 = 1) : InvE di (tc_mk S c') := by
  obtain ⟨h0, h1, h2, h3, h4, h5, h6, h7, h8, h9, h10⟩ := h
  have g1 := h1.wr k (fun a _ => by omega) (fun a _ => by omega) (fun q k _ => by omega) (fun q k _ => by omega)
  have g4 := h4.wr k (fun a _ => by omega) (fun q k _ => by omega)
  refine ⟨S, c', D, m, U, P, H', Z, X, nw, ed, nv, vt, mv, Dv, rfl, ⟨h0, g1, h2.wr k (fun a _ => by omega) (fun q k _ => by omega), h3.wr k (fun a _ => by omega) (fun q k _ => by omega), g4, hr, h6.wr k (fun a _ => by omega) (fun q k _ => by omega), h7.wr k (fun a _ => by omega) (fun q k _ => by omega), h8.wr k (fun a _ => by omega) (fun a _ => by omega) (fun q k _ => by omega), h9.wr h0 k (fun a _ => by omega) (fun a _ => by omega) (fun q k _ => by omega) (fun q k _ => by omega), h10.wr h0 k (fun a _ => by omega) (fun q k _ => by omega)⟩, ?_, true, hs, fun e => by cases e⟩
  obtain ⟨⟨r, r1, ⟨-, -, f3, f4⟩, f5, f6⟩, -⟩ := hF
  obtain ⟨k1, k2, k3, k4, k5⟩ := k
  exact ⟨r, r1, ⟨g1.2.1, g4.1, by rw [k4 _ _ (by omega)]; exact f3, fun i hi => by rw [k1 _ (by omega)]; exact f4 i hi⟩, by rw [k3 _ _ (by omega)]; exact f5, fun p i hp hi => by rw [k2 _ (by omega)]; exact f6 p i hp hi⟩
/-- the reference looks for a path among the hidden ones -/
theorem hide_loop (hM : tc_Mod S z) (hk : k ≤ 3) (h33 : c.2.2.1 155 33 = nI k) (x : Int32) (hone : ∀ i j, i < k → j < k → c.1 181 i = c.1 181 j → i = j) :
    (∃ i, i < k ∧ c.1 181 i = x ∧ tq_loop (f_X11_hide_b4 155 x (tc_mk S c)) tq_N ((-1 : Int32), (0 : Int32)) = some (nI i)) ∨ ((∀ i, i < k → c.1 181 i ≠ x) ∧ tq_loop (f_X11_hide_b4 155 x (tc_mk S c)) tq_N ((-1 : Int32), (0 : Int32)) = some (-1)) := by
  have L : tq_loop (f_X11_hide_b4 155 x (tc_mk S c)) tq_N ((-1 : Int32), (0 : Int32)) = some (lastN (fun i => decide (c.1 181 i = x)) k) := by
    refine tc_scan (B := f_X11_hide_b4 155 x (tc_mk S c)) k (fun i => lastN (fun i => decide (c.1 181 i = x)) i) (by omega) (fun i hi => ?_) ?_
    · have d0 : ¬ nI i ≥ nI k := nI_ge hi (by omega)
      have hi3 : i < 3 := by omega
      by_cases e : c.1 181 i = x
      · simp (maxSteps := 3000000) (disch := omega) only [Option.bind_some, tc_bs, tq_let, tc_I1, tc_I2, tc_J1, tc_J2, tc_J3, tc_F1, tc_F2, tc_F3, tc_F4, tc_G1, tc_G2, tc_G3, tc_G4, tc_G5, tc_us, tc_un, s_one, s_holds, s_J13_bitCount, bz_bI, f_X11_hide_b4, hM.f, h33, d0, e, if_true, if_false, nI_1, lastN, decide_true]
      · simp (maxSteps := 3000000) (disch := omega) only [Option.bind_some, tc_bs, tq_let, tc_I1, tc_I2, tc_J1, tc_J2, tc_J3, tc_F1, tc_F2, tc_F3, tc_F4, tc_G1, tc_G2, tc_G3, tc_G4, tc_G5, tc_us, tc_un, s_one, s_holds, s_J13_bitCount, bz_bI, f_X11_hide_b4, hM.f, h33, d0, e, if_false, nI_1, lastN, decide_false, Bool.false_eq_true]
    · have d0 : nI k ≥ nI k := Int32.le_refl _
      simp (maxSteps := 3000000) (disch := omega) only [Option.bind_some, tc_bs, tq_let, tc_I1, tc_I2, tc_J1, tc_J2, tc_J3, tc_F1, tc_F2, tc_F3, tc_F4, tc_G1, tc_G2, tc_G3, tc_G4, tc_G5, tc_us, tc_un, s_one, s_holds, s_J13_bitCount, bz_bI, f_X11_hide_b4, hM.f, h33, d0, if_true]
  by_cases q : ∃ i, i < k ∧ c.1 181 i = x
  · obtain ⟨i, i1, i2⟩ := q
    refine .inl ⟨i, i1, i2, ?_⟩
    rw [L, lastN_one (v := i) (decide_eq_true i2) i1 (fun j hj h => hone j i hj i1 (by rw [of_decide_eq_true h, i2]))]
  · refine .inr ⟨fun i hi e => q ⟨i, hi, e⟩, ?_⟩
    rw [L, lastN_no (fun i hi => decide_eq_false fun e => q ⟨i, hi, e⟩)]
theorem hid_ct {n : Nat} (hn : n ≤ 20) (hk : k ≤ 3) (hH : ∀ p, H p = true → p < n) (h1 : ∀ i, i < k → ∃ p, p < n ∧ c.1 181 i = nI p ∧ H p = true) (h2 : ∀ p, H p = true → ∃ i, i < k ∧ c.1 181 i = nI p) (h3 : ∀ i j, i < k → j < k → c.1 181 i = c.1 181 j → i = j) : fb_ct H 64 = k := by
  have cl : ∀ p, p < 2 ^ 31 → (nI p).toNatClampNeg = p := fun p hp => nI_clamp hp
  have a : ∀ i, i < k → ∃ p, p < n ∧ c.1 181 i = nI p ∧ H p = true ∧ (c.1 181 i).toNatClampNeg = p := fun i hi => by
    obtain ⟨p, p1, p2, p3⟩ := h1 i hi
    exact ⟨p, p1, p2, p3, by rw [p2, cl p (by omega)]⟩
  have e := ct_img (p := H) (o := fun i => (c.1 181 i).toNatClampNeg) (m := 64) (n := k) (fun i hi => by obtain ⟨p, p1, -, -, p4⟩ := a i hi; omega) (fun i j hi hj e => by
    obtain ⟨p, p1, p2, -, p4⟩ := a i hi
    obtain ⟨p', p1', p2', -, p4'⟩ := a j hj
    exact h3 i j hi hj (by rw [p2, p2']; congr 1; omega)) (fun p hp hHp => by
    obtain ⟨i, i1, i2⟩ := h2 p hHp
    exact ⟨i, i1, by rw [i2, cl p (by have := hH p hHp; omega)]⟩)
  rw [e, fb_ct_all]
  intro i hi
  obtain ⟨p, -, -, p3, p4⟩ := a i hi
  rw [p4]; exact p3
theorem arm_hide (h : InvE di h0) (e1 : tq_sx n xs (y4 + 1) = some x1) : ∃ h', f_V_law_c3479 n xs 0 155 205 y4 h0 = some (.inl (y4 + 5, h')) ∧ InvE di h' := by
  obtain ⟨S, c, D, m, U, P, H, Z, X, nw, ed, nv, vt, mv, Dv, rfl, hC, hF⟩ := h
  have e0 : f_V_law_c3479 n xs 0 155 205 y4 (tc_mk S c) = armB (f_V_hide 0 x1 205 (tc_mk S c)) (f_X11_hide 155 x1) y4 := by
    unfold f_V_law_c3479; rw [e1]; rfl
  rw [e0]
  have n10 : ¬ (1 : Int32) = 0 := by decide
  have n20 : ¬ (2 : Int32) = 0 := by decide
  have z1 : tq_bz 1 = some 1 := rfl
  have z0 : tq_bz 0 = some 0 := rfl
  have b0 : bI false = 0 := rfl
  have b1 : ¬ bI true = 0 := by decide
  obtain ⟨pc, pr, hP⟩ := hC.gp
  have h20 := hP.1
  obtain ⟨r1, r2, ⟨k, k1, k2, k3, k4, k5⟩, rd, r4, r5⟩ := hC.2.2.2.2.2.1
  have isp := s_X11_isPath (S := S) hC.mod pr.1 hP x1
  by_cases qp : 0 ≤ x1 ∧ x1 < nI P.n
  · rw [decide_eq_true qp] at isp
    have cn := (hC.npath x1).1 qp
    obtain ⟨p, hp31, rfl⟩ := nI_of (Int32.not_lt.mpr qp.1)
    have hp : p < P.n := (nI_ltI hp31 (by omega)).mp qp.2
    have ih : hasI (mkS H) (nI p) = H p := hasI_mkS H (by omega)
    let H' : Nat → Bool := fun j => H j ^^ decide (j = p)
    have ew : mkS H ^^^ oneI (nI p) = mkS H' := by rw [oneI_in (by omega), mkS_b1, mkS_xor]
    have eh : hasI (mkS H') (nI p) = !H p := by rw [hasI_mkS H' (by omega)]; show (H p ^^ decide (p = p)) = _; simp
    have hH' : ∀ j, H' j = true → j < P.n := fun j hj => by
      change (H j ^^ decide (j = p)) = true at hj
      by_cases e : j = p
      · omega
      · exact r2 j (by simpa [e] using hj)
    have hct := hid_ct (c := c) h20 k1 r2 k3 k4 k5
    cases hHp : H p with
    | true =>
      rw [hHp] at ih eh
      have e5 : f_X10_hide 0 (nI p) (tc_mk S c) = some (.inr (bI false), tc_mk S (tc_F (tc_G c 0 15 (mkS H')) 0 18 1)) := by
        simp (maxSteps := 3000000) (disch := omega) only [Option.bind_some, tc_bs, tq_let, tc_I1, tc_I2, tc_J1, tc_J2, tc_J3, tc_F1, tc_F2, tc_F3, tc_F4, tc_G1, tc_G2, tc_G3, tc_G4, tc_G5, tc_us, tc_un, s_one, s_holds, s_J13_bitCount, bz_bI, f_X10_hide, hC.tq.f, cn, tb_r, r1, ih, b1, ew, eh, Bool.not_true, if_false]
      rcases hide_loop (S := S) (c := ansC (tc_F (tc_G c 0 15 (mkS H')) 0 18 1) (bL (bI false))) hC.mod k1 k2 (nI p) k5 with ⟨i, i1, i2, i3⟩ | ⟨i1, -⟩
      · have i2 : c.1 181 i = nI p := i2
        have isp' : f_X11_isPath 155 (nI p) (tc_mk S (ansC (tc_F (tc_G c 0 15 (mkS H')) 0 18 1) (bL (bI false)))) = some (bI true) := by
          have w := s_X11_isPath (S := S) (c := ansC (tc_F (tc_G c 0 15 (mkS H')) 0 18 1) (bL (bI false))) (P := P) hC.mod pr.1 hP (nI p)
          rwa [decide_eq_true qp] at w
        have nm1 : ¬ nI i = -1 := nI_nm1 (by omega)
        have m1 : nI k - 1 = nI (k - 1) := by
          rw [show nI k = nI (k - 1 + 1) by congr 1; omega, ← nI_1]; exact Int32.add_sub_cancel _ _
        have hk3 : k - 1 < 3 := by omega
        have hi3 : i < 3 := by omega
        have k2' : (tc_F c 0 18 1).2.2.1 155 33 = nI k := k2
        refine armB_any hC.mod hC.tq (.inl ⟨bI false, _, tc_I (tc_F (tc_F (ansC (tc_F (tc_G c 0 15 (mkS H')) 0 18 1) (bL (bI false))) 155 0 0) 155 33 (nI (k - 1))) 181 (upd (c.1 181) i (c.1 181 (k - 1))), by simp (maxSteps := 3000000) (disch := omega) only [Option.bind_some, tc_bs, tq_let, tc_I1, tc_I2, tc_J1, tc_J2, tc_J3, tc_F1, tc_F2, tc_F3, tc_F4, tc_G1, tc_G2, tc_G3, tc_G4, tc_G5, tc_us, tc_un, s_one, s_holds, s_J13_bitCount, bz_bI, f_V_hide, hC.tq.f, e5, bL_bI]; rfl, ?_, ?_, rfl, rfl⟩)
        · simp (maxSteps := 3000000) (disch := omega) only [Option.bind_some, tc_bs, tq_let, tc_I1, tc_I2, tc_J1, tc_J2, tc_J3, tc_F1, tc_F2, tc_F3, tc_F4, tc_G1, tc_G2, tc_G3, tc_G4, tc_G5, tc_us, tc_un, s_one, s_holds, s_J13_bitCount, bz_bI, f_X11_hide, i3, isp', b1, nm1, f_X11_refused, hC.mod.f, ans1, ans2, k2', k2, m1, z0, n10, if_true, if_false]; rfl
        · refine hC.hid (H' := H') hF (Wr.trans (Wr.trans (Wr.trans (Wr.trans (Wr.G _ ⟨rfl, rfl⟩) (Wr.F _ (by omega))) (Wr.A _ rfl)) (Wr.F _ (by omega))) (Wr.trans (Wr.F _ (by omega)) (Wr.I _ rfl))) ⟨rfl, hH', ⟨k - 1, by omega, rfl, fun j hj => ?_, fun q hq => ?_, fun j j' hj hj' e => ?_⟩, rd, r4, r5⟩ rfl
          · show ∃ p', p' < P.n ∧ upd (c.1 181) i (c.1 181 (k - 1)) j = nI p' ∧ H' p' = true
            by_cases e : j = i
            · subst e
              rw [upd_s]
              obtain ⟨p', p1, p2, p3⟩ := k3 (k - 1) (by omega)
              refine ⟨p', p1, p2, ?_⟩
              show (H p' ^^ decide (p' = p)) = true
              have : p' ≠ p := fun z => by subst z; have := k5 (k - 1) j (by omega) i1 (by rw [p2, i2]); omega
              rw [p3]; simp [this]
            · rw [upd_n _ _ e]
              obtain ⟨p', p1, p2, p3⟩ := k3 j (by omega)
              refine ⟨p', p1, p2, ?_⟩
              show (H p' ^^ decide (p' = p)) = true
              have : p' ≠ p := fun z => by subst z; exact e (k5 j i (by omega) i1 (by rw [p2, i2]))
              rw [p3]; simp [this]
          · show ∃ j, j < k - 1 ∧ upd (c.1 181) i (c.1 181 (k - 1)) j = nI q
            change (H q ^^ decide (q = p)) = true at hq
            have hqp : q ≠ p := fun z => by subst z; rw [hHp] at hq; simp at hq
            obtain ⟨j, j1, j2⟩ := k4 q (by simpa [hqp] using hq)
            by_cases e : j = k - 1
            · have hji : i ≠ k - 1 := fun z => hqp (by have := (nI_eq (show p < 2 ^ 31 by omega) (show q < 2 ^ 31 by have := r2 q (by simpa [hqp] using hq); omega)).mp (by rw [← i2, ← j2, e, z]); exact this.symm)
              exact ⟨i, by omega, by rw [upd_s, ← e]; exact j2⟩
            · have hji : j ≠ i := fun z => hqp (by have := (nI_eq (show p < 2 ^ 31 by omega) (show q < 2 ^ 31 by have := r2 q (by simpa [hqp] using hq); omega)).mp (by rw [← i2, ← j2, z]); exact this.symm)
              exact ⟨j, by omega, by rw [upd_n _ _ hji]; exact j2⟩
          · change upd (c.1 181) i (c.1 181 (k - 1)) j = upd (c.1 181) i (c.1 181 (k - 1)) j' at e
            by_cases a : j = i <;> by_cases b : j' = i
            · omega
            · rw [a, upd_s, upd_n _ _ b] at e
              have := k5 (k - 1) j' (by omega) (by omega) e; omega
            · rw [b, upd_s, upd_n _ _ a] at e
              have := k5 j (k - 1) (by omega) (by omega) e; omega
            · rw [upd_n _ _ a, upd_n _ _ b] at e
              exact k5 j j' (by omega) (by omega) e
      · obtain ⟨j, j1, j2⟩ := k4 p hHp
        exact absurd j2 (i1 j j1)
    | false =>
      rw [hHp] at ih eh
      have hno : ∀ i, i < k → c.1 181 i ≠ nI p := fun i hi z => by
        obtain ⟨p', p1, p2, p3⟩ := k3 i hi
        rw [p2] at z
        have := (nI_eq (show p' < 2 ^ 31 by omega) (show p < 2 ^ 31 by omega)).mp z
        subst this; rw [hHp] at p3; exact absurd p3 (by decide)
      by_cases q3 : k < 3
      · have q3' : nI k < 3 := nI_lt q3 (by decide)
        have q3n : ¬ nI k = 3 := fun z => by have := (nI_eq (show k < 2 ^ 31 by omega) (show 3 < 2 ^ 31 by decide)).mp z; omega
        have e5 : f_X10_hide 0 (nI p) (tc_mk S c) = some (.inr (bI true), tc_mk S (tc_F (tc_G c 0 15 (mkS H')) 0 18 1)) := by
          simp (maxSteps := 3000000) (disch := omega) only [Option.bind_some, tc_bs, tq_let, tc_I1, tc_I2, tc_J1, tc_J2, tc_J3, tc_F1, tc_F2, tc_F3, tc_F4, tc_G1, tc_G2, tc_G3, tc_G4, tc_G5, tc_us, tc_un, s_one, s_holds, s_J13_bitCount, bz_bI, f_X10_hide, hC.tq.f, cn, tb_r, r1, ih, b0, ct_mkS, hct, q3', ew, eh, Bool.not_false, if_true]
        rcases hide_loop (S := S) (c := ansC (tc_F (tc_G c 0 15 (mkS H')) 0 18 1) (bL (bI true))) hC.mod k1 k2 (nI p) k5 with ⟨i, i1, i2, -⟩ | ⟨-, i3⟩
        · exact absurd i2 (hno i i1)
        · have isp' : f_X11_isPath 155 (nI p) (tc_mk S (ansC (tc_F (tc_G c 0 15 (mkS H')) 0 18 1) (bL (bI true)))) = some (bI true) := by
            have w := s_X11_isPath (S := S) (c := ansC (tc_F (tc_G c 0 15 (mkS H')) 0 18 1) (bL (bI true))) (P := P) hC.mod pr.1 hP (nI p)
            rwa [decide_eq_true qp] at w
          have k2' : (tc_F c 0 18 1).2.2.1 155 33 = nI k := k2
          refine armB_any hC.mod hC.tq (.inl ⟨bI true, _, tc_F (tc_I (tc_F (ansC (tc_F (tc_G c 0 15 (mkS H')) 0 18 1) (bL (bI true))) 155 0 0) 181 (upd (c.1 181) k (nI p))) 155 33 (nI (k + 1)), by simp (maxSteps := 3000000) (disch := omega) only [Option.bind_some, tc_bs, tq_let, tc_I1, tc_I2, tc_J1, tc_J2, tc_J3, tc_F1, tc_F2, tc_F3, tc_F4, tc_G1, tc_G2, tc_G3, tc_G4, tc_G5, tc_us, tc_un, s_one, s_holds, s_J13_bitCount, bz_bI, f_V_hide, hC.tq.f, e5, bL_bI]; rfl, ?_, ?_, rfl, rfl⟩)
          · simp (maxSteps := 3000000) (disch := omega) only [Option.bind_some, tc_bs, tq_let, tc_I1, tc_I2, tc_J1, tc_J2, tc_J3, tc_F1, tc_F2, tc_F3, tc_F4, tc_G1, tc_G2, tc_G3, tc_G4, tc_G5, tc_us, tc_un, s_one, s_holds, s_J13_bitCount, bz_bI, f_X11_hide, i3, isp', b1, f_X11_refused, hC.mod.f, ans1, ans2, k2', k2, q3n, nI_1, z0, n10, if_true, if_false]; rfl
          · refine hC.hid (H' := H') hF (Wr.trans (Wr.trans (Wr.trans (Wr.trans (Wr.G _ ⟨rfl, rfl⟩) (Wr.F _ (by omega))) (Wr.A _ rfl)) (Wr.F _ (by omega))) (Wr.trans (Wr.I _ rfl) (Wr.F _ (by omega)))) ⟨rfl, hH', ⟨k + 1, by omega, rfl, fun j hj => ?_, fun q hq => ?_, fun j j' hj hj' e => ?_⟩, rd, r4, r5⟩ rfl
            · show ∃ p', p' < P.n ∧ upd (c.1 181) k (nI p) j = nI p' ∧ H' p' = true
              by_cases e : j = k
              · subst e
                rw [upd_s]
                exact ⟨p, hp, rfl, by show (H p ^^ decide (p = p)) = true; rw [hHp]; simp⟩
              · rw [upd_n _ _ e]
                obtain ⟨p', p1, p2, p3⟩ := k3 j (by omega)
                refine ⟨p', p1, p2, ?_⟩
                show (H p' ^^ decide (p' = p)) = true
                have : p' ≠ p := fun z => by subst z; rw [hHp] at p3; exact absurd p3 (by decide)
                rw [p3]; simp [this]
            · show ∃ j, j < k + 1 ∧ upd (c.1 181) k (nI p) j = nI q
              change (H q ^^ decide (q = p)) = true at hq
              by_cases hqp : q = p
              · exact ⟨k, by omega, by rw [upd_s, hqp]⟩
              · obtain ⟨j, j1, j2⟩ := k4 q (by simpa [hqp] using hq)
                exact ⟨j, by omega, by rw [upd_n _ _ (by omega)]; exact j2⟩
            · change upd (c.1 181) k (nI p) j = upd (c.1 181) k (nI p) j' at e
              by_cases a : j = k <;> by_cases b : j' = k
              · omega
              · rw [a, upd_s, upd_n _ _ b] at e
                exact absurd e.symm (hno j' (by omega))
              · rw [b, upd_s, upd_n _ _ a] at e
                exact absurd e (hno j (by omega))
              · rw [upd_n _ _ a, upd_n _ _ b] at e
                exact k5 j j' (by omega) (by omega) e
      · have ek : k = 3 := by omega
        have q3' : ¬ nI k < 3 := nI_nlt (show 3 ≤ k by omega) (by omega)
        have q3n : nI k = 3 := by rw [ek]; rfl
        have e5 : f_X10_hide 0 (nI p) (tc_mk S c) = some (.inl "java/lang/IllegalStateException", tc_mk S c) := by
          simp (maxSteps := 3000000) (disch := omega) only [Option.bind_some, tc_bs, tq_let, tc_I1, tc_I2, tc_J1, tc_J2, tc_J3, tc_F1, tc_F2, tc_F3, tc_F4, tc_G1, tc_G2, tc_G3, tc_G4, tc_G5, tc_us, tc_un, s_one, s_holds, s_J13_bitCount, bz_bI, f_X10_hide, hC.tq.f, cn, tb_r, r1, ih, b0, ct_mkS, hct, q3', if_true, if_false]
        rcases hide_loop (S := S) (c := c) hC.mod k1 k2 (nI p) k5 with ⟨i, i1, i2, -⟩ | ⟨-, i3⟩
        · exact absurd i2 (hno i i1)
        · refine armB_any hC.mod hC.tq (.inr ⟨2, 0, c, tc_F c 155 0 2, by decide, by simp (maxSteps := 3000000) (disch := omega) only [Option.bind_some, tc_bs, tq_let, tc_I1, tc_I2, tc_J1, tc_J2, tc_J3, tc_F1, tc_F2, tc_F3, tc_F4, tc_G1, tc_G2, tc_G3, tc_G4, tc_G5, tc_us, tc_un, s_one, s_holds, s_J13_bitCount, bz_bI, f_V_hide, hC.tq.f, e5, nSI, if_true, if_false], ?_, hC.fin hF 2, rfl⟩)
          simp (maxSteps := 3000000) (disch := omega) only [Option.bind_some, tc_bs, tq_let, tc_I1, tc_I2, tc_J1, tc_J2, tc_J3, tc_F1, tc_F2, tc_F3, tc_F4, tc_G1, tc_G2, tc_G3, tc_G4, tc_G5, tc_us, tc_un, s_one, s_holds, s_J13_bitCount, bz_bI, f_X11_hide, i3, isp, b1, f_X11_refused, hC.mod.f, k2, q3n, n10, n20, z1, if_true, if_false]
  · rw [decide_eq_false qp] at isp
    have cn := (hC.npath x1).2 qp
    have e5 : f_X10_hide 0 x1 (tc_mk S c) = some (.inl "java/lang/IndexOutOfBoundsException", tc_mk S c) := by
      simp (maxSteps := 3000000) (disch := omega) only [Option.bind_some, tc_bs, tq_let, tc_I1, tc_I2, tc_J1, tc_J2, tc_J3, tc_F1, tc_F2, tc_F3, tc_F4, tc_G1, tc_G2, tc_G3, tc_G4, tc_G5, tc_us, tc_un, s_one, s_holds, s_J13_bitCount, bz_bI, f_X10_hide, hC.tq.f, cn, tb_l]
    obtain ⟨o, eo⟩ : ∃ o, tq_loop (f_X11_hide_b4 155 x1 (tc_mk S c)) tq_N ((-1 : Int32), (0 : Int32)) = some o := by
      rcases hide_loop (S := S) (c := c) hC.mod k1 k2 x1 k5 with ⟨i, -, -, i3⟩ | ⟨-, i3⟩ <;> exact ⟨_, i3⟩
    refine armB_any hC.mod hC.tq (.inr ⟨1, 0, c, tc_F c 155 0 1, by decide, by simp (maxSteps := 3000000) (disch := omega) only [Option.bind_some, tc_bs, tq_let, tc_I1, tc_I2, tc_J1, tc_J2, tc_J3, tc_F1, tc_F2, tc_F3, tc_F4, tc_G1, tc_G2, tc_G3, tc_G4, tc_G5, tc_us, tc_un, s_one, s_holds, s_J13_bitCount, bz_bI, f_V_hide, hC.tq.f, e5, if_true], ?_, hC.fin hF 1, rfl⟩)
    simp (maxSteps := 3000000) (disch := omega) only [Option.bind_some, tc_bs, tq_let, tc_I1, tc_I2, tc_J1, tc_J2, tc_J3, tc_F1, tc_F2, tc_F3, tc_F4, tc_G1, tc_G2, tc_G3, tc_G4, tc_G5, tc_us, tc_un, s_one, s_holds, s_J13_bitCount, bz_bI, f_X11_hide, eo, isp, b0, f_X11_refused, hC.mod.f, n10, z1, if_true, if_false]
end HID
