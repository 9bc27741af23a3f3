/-! ===== a version is taken ===== -/
abbrev R1 (a : Nat) : Prop := (41 ≤ a ∧ a ≤ 80) ∨ a = 97 ∨ (140 ≤ a ∧ a ≤ 147) ∨ (156 ≤ a ∧ a ≤ 161) ∨ (163 ≤ a ∧ a ≤ 166) ∨ (168 ≤ a ∧ a ≤ 174) ∨ a = 182 ∨ a = 188
abbrev R2 (a : Nat) : Prop := (41 ≤ a ∧ a ≤ 80) ∨ a = 205 ∨ a = 179 ∨ a = 180
abbrev R3 (q k : Nat) : Prop := (41 ≤ q ∧ q ≤ 80) ∨ (q = 155 ∧ (k = 0 ∨ k = 1 ∨ k = 11))
abbrev R4 (q _k : Nat) : Prop := (41 ≤ q ∧ q ≤ 81) ∨ q = 155
abbrev T1 (a : Nat) : Prop := (1 ≤ a ∧ a ≤ 80) ∨ (117 ≤ a ∧ a ≤ 123) ∨ a = 152
abbrev T2 (a : Nat) : Prop := (1 ≤ a ∧ a ≤ 80) ∨ (117 ≤ a ∧ a ≤ 123) ∨ a = 154
abbrev T3 (q k : Nat) : Prop := (1 ≤ q ∧ q ≤ 80) ∨ (117 ≤ q ∧ q ≤ 123) ∨ (q = 0 ∧ k = 18)
abbrev T4 (q _k : Nat) : Prop := (1 ≤ q ∧ q ≤ 80) ∨ (117 ≤ q ∧ q ≤ 123)
abbrev m1w (a : Nat) : Prop := 168 ≤ a ∧ a ≤ 173
section TKV
variable {S : tq_H} {c c' c1 c2 d d1 : tc_C} {di : DI} {D E : Doc} {m M : Nat} {U U' : Ups} {P : Pat} {H : Nat → Bool} {Z : Sma} {X : Nat → Bool} {nw : Nat} {ed : Option Nat} {nv : Nat} {vt mv : Nat → Nat} {Dv : Nat → Doc} {p q r k b i n z : Nat} {x1 y4 : Int32} {xs : Nat → Int32} {h0 : tq_H}
theorem Cor.back (h : Cor S c di D m U P H Z X nw ed nv vt mv Dv) (hF : GF c D P H) (k : Wr R1 R2 R3 R4 c c') (hR : RTree c' D m) (hO : ROrd c' D) (hkd : ∀ v, v < m → c'.1 156 v = c.1 156 v) : InvE di (tc_mk S c') := by
  obtain ⟨g0, g1, g2, g3, g4, g5, g6, g7, g8, g9, g10⟩ := h
  obtain ⟨k1, k2, k3, k4, k5⟩ := id k
  have hg : GT c' D m := ⟨g1.1, g1.2.1.pt (fun a _ _ => k1 a (by omega)) (fun a _ _ => k2 a (by omega)) (k3 _ _ (by omega)) (k4 _ _ (by omega)) (k4 _ _ (by omega)), g1.2.2.1.pt (fun a _ _ => k1 a (by omega)) (k3 _ _ (by omega)), hR, hO⟩
  have hp := g4.wr k (fun a _ => by omega) (fun q k _ => by omega)
  have hK : GK c' m nv vt mv Dv := by
    obtain ⟨h1, h2, h3, h4, h5⟩ := g9
    obtain ⟨-, -, -, -, -, -, -, -, hv, -⟩ := g0
    refine ⟨by rw [k3 0 12 (by omega)]; exact h1, by rw [k3 155 49 (by omega)]; exact h2, h3, by rw [k5]; exact h4, fun j hj => ?_⟩
    obtain ⟨a1, a2, a3, a4, a5, a6, a7, a8⟩ := h5 j hj
    obtain ⟨-, v1, v2⟩ := hv j hj
    refine ⟨by rw [k5]; exact a1, a2, a3.pt (fun a _ _ => k1 a (by omega)) (fun a _ _ => k2 a (by omega)) (k3 _ _ (by omega)) (k4 _ _ (by omega)) (k4 _ _ (by omega)), a4.pt (fun a _ _ => k1 a (by omega)) (k3 _ _ (by omega)), by rw [k1 (vt j + 33) (by omega)]; exact a5, a6.pt (fun a _ _ => k1 a (by omega)), a7, fun i hi => ?_⟩
    rw [hkd _ (Nat.lt_of_lt_of_le (a4.2.1 i hi) a7)]
    exact a8 i hi
  exact ⟨S, c', D, m, U, P, H, Z, X, nw, ed, nv, vt, mv, Dv, rfl, ⟨g0, hg, g2.wr k (fun a _ => by omega) (fun q k _ => by omega), g3.wr k (fun a _ => by omega) (fun q k _ => by omega), hp, g5.wr k (fun a _ => by omega) (fun q k _ => by omega) (fun q k _ => by omega), g6.wr k (fun a _ => by omega) (fun q k _ => by omega), g7.wr k (fun a _ => by omega) (fun q k _ => by omega), g8.wr k (fun a _ => by omega) (fun a _ => by omega) (fun q k _ => by omega), hK, g10.wr g0 k (fun a _ => by omega) (fun q k _ => by omega)⟩, hF.wr hg.2.1 hp.1 k (fun a _ => by omega) (fun a _ => by omega) (fun q k _ => by omega) (fun q k _ => by omega)⟩
/-- the class takes a version -/
theorem Cor.takeC (h : Cor S c di D m U P H Z X nw ed nv vt mv Dv) (hF : GF c D P H) (hk : k < nv) (pv : Nat → Nat) (hpv : ∀ k, k < nw → pv k < P.n ∧ c.1 150 k = nI (pv k)) :
    ∃ c1 c2 c3 c4, f_X8_copy 41 (vt k) (tc_mk S c) = some (tc_mk S c1) ∧ f_X8_madeCount 1 (tc_mk S c1) = some (nI m) ∧ f_X8_keepMade 41 (nI m) (tc_mk S c1) = some (tc_mk S c2) ∧ f_X8_numberAnew 41 (tc_mk S c2) = some (tc_mk S c3) ∧ f_X10_settle 0 (tc_mk S c3) = some (tc_mk S c4) ∧ f_X3_count 2 (tc_mk S c4) = some (nI (Dv k).n) ∧
      Lay c4 1 (Dv k) ∧ Nod c4 1 (Dv k) m ∧ (∀ j, j < (Dv k).n → (Dv k).kd j ≠ 2 → c4.1 34 ((Dv k).ord j) = nI (16 * fb_ct (Dv k).sol (j + 1))) ∧ (∀ j, j < (Dv k).n → (Dv k).kd j = 2 → c4.1 34 ((Dv k).ord j) = -1) ∧ (∃ r, r ≤ P.n ∧ FT c4 117 (Dv k) P (Dv k).al r) ∧ c4.2.2.1 0 18 = 1 ∧ (∀ j, j < nw → c4.1 152 j = nI (fb_ct (tb (D.V P (pv j) ^^^ (Dv k).V P (pv j))) 64)) ∧ Wr T1 T2 T3 T4 c c4 := by
  obtain ⟨v1, v2, v3, v4, v5⟩ := h.gk
  obtain ⟨w1, ⟨w2, w2'⟩, w3, w4, w5, w6, w7, w8⟩ := v5 k hk
  obtain ⟨-, ⟨hT1, hT41⟩, -, -, -, -, -, -, hv, -⟩ := h.1
  obtain ⟨t1, t2, t3⟩ := hv k hk
  obtain ⟨c1, a1, a2, a3, a4, a5⟩ := s_X8_copy (S := S) hT41 t1 (.inl (by omega)) w2 w4
  have hm1 : c1.2.2.1 1 10 = nI m := by rw [a2.2.2.1 1 (by omega)]; exact h.gt.2.2.1.2.2.1
  have k1 : Wr T1 T2 T3 T4 c c1 := Wr.kp a2.kp (fun a _ _ => by omega) (fun a _ _ => by omega) (fun a _ _ _ => by omega) (fun a _ _ _ => by omega)
  have e3 : f_X8_numberAnew 41 (tc_mk S (tc_F c1 41 10 (nI m))) = _ := s_X8_numberAnew (S := S) hT41 w2 (a3.pt (c' := tc_F c1 41 10 (nI m)) (fun _ _ _ => rfl) (fun _ _ _ => rfl) rfl rfl rfl)
  obtain ⟨c3, ec3⟩ : ∃ c3, c3 = tc_I (tc_F c1 41 10 (nI m)) 74 ((Dv k).numF (c1.1 74) (Dv k).n) := ⟨_, rfl⟩
  have e3 : f_X8_numberAnew 41 (tc_mk S (tc_F c1 41 10 (nI m))) = some (tc_mk S c3) := by rw [e3, ec3]; rfl
  have k3 : Wr T1 T2 T3 T4 c1 c3 := by rw [ec3]; exact Wr.trans (Wr.F _ (by omega)) (Wr.I _ (by omega))
  have k13 := k1.trans k3
  have hN3 : Nod c3 41 (Dv k) m := by
    have hm60 := h.gt.2.2.1.1
    have : Nod (tc_F c1 41 10 (nI m)) 41 (Dv k) m := by
      obtain ⟨n1, n2, n3, n4, n5, n6, n7, n8, n9, n10⟩ := a4
      exact ⟨hm60, fun i hi => Nat.lt_of_lt_of_le (n2 i hi) w7, rfl, n4, n5, n6, n7, n8, n9, n10⟩
    rw [ec3]
    obtain ⟨n1, n2, n3, n4, n5, n6, n7, n8, n9, n10⟩ := this
    exact ⟨n1, n2, n3, n4, n5, n6, n7, n8, n9, n10⟩
  obtain ⟨⟨r, r1, f⟩, -⟩ := hF
  have hp3 := h.gp
  have u1 : ∀ a, a < 41 ∨ 80 < a → c3.1 a = c.1 a := fun a ha => by
    rw [ec3, tc_I1, tc_un _ _ (by omega)]
    exact a2.1 a (by omega)
  have u2 : ∀ a, a < 41 ∨ 80 < a → c3.2.1 a = c.2.1 a := fun a ha => by rw [ec3]; exact a2.2.1 a (by omega)
  have u3 : ∀ q k, q < 41 ∨ 80 < q → c3.2.2.1 q k = c.2.2.1 q k := fun q k hq => by
    rw [ec3]
    show tc_u c1.2.2.1 41 _ q k = _
    rw [tc_un _ _ (by omega), a2.2.2.1 q (by omega)]
  have u4 : ∀ q k, q < 41 ∨ 80 < q → c3.2.2.2.1 q k = c.2.2.2.1 q k := fun q k hq => by rw [ec3]; exact congrFun (a2.2.2.2.1 q (by omega)) k
  have hF3 : FT c3 117 D P D.al r := by
    obtain ⟨⟨f1, f2, f3, f4⟩, f5, f6⟩ := f
    exact ⟨⟨f1.pt (fun x _ _ => u1 x (by omega)) (fun x _ _ => u2 x (by omega)) (u3 _ _ (by omega)) (u4 _ _ (by omega)) (u4 _ _ (by omega)), f2.w1 (fun x _ _ => u1 x (by omega)) (u3 _ _ (by omega)), by rw [u4 _ _ (by omega)]; exact f3, fun i hi => by rw [u1 _ (by omega)]; exact f4 i hi⟩, by rw [u3 _ _ (by omega)]; exact f5, fun p i hp hi => by rw [u2 _ (by omega)]; exact f6 p i hp hi⟩
  obtain ⟨c4, b1, b2, b3, b4, b5, b6, b7, b8⟩ := s_settle (S := S) (ed := ed) (nw := nw) (E := Dv k) (M := m) hT1 hT41 h.tq h.fa.1 h.pth h.gt.1.1 w2 hp3.2.2 hF3 r1 (by rw [u3 _ _ (by omega)]; exact h.gv.1) h.gv.2.2.1 pv (fun k hk => by rw [u1 150 (by omega)]; exact hpv k hk) hN3
  have kall : Wr T1 T2 T3 T4 c c4 := k13.trans (b8.mono (fun a z => by omega) (fun a z => by omega) (fun q k z => by omega) (fun q k z => by omega))
  have h34 : ∀ j, j < (Dv k).n → c4.1 34 ((Dv k).ord j) = (Dv k).numF (c1.1 74) (Dv k).n ((Dv k).ord j) := fun j hj => by
    rw [b4 _ ((Dv k).ord_lt w2 hj), ec3]; rfl
  refine ⟨c1, tc_F c1 41 10 (nI m), c3, c4, a1, by simp (maxSteps := 3000000) (disch := omega) only [Option.bind_some, tc_bs, tq_let, tc_I1, tc_I2, tc_J1, tc_J2, tc_J3, tc_F1, tc_F2, tc_F3, tc_F4, tc_G1, tc_G2, tc_G3, tc_G4, tc_G5, tc_us, tc_un, s_one, s_holds, s_J13_bitCount, bz_bI, f_X8_madeCount, hT1.f, hm1], by simp (maxSteps := 3000000) (disch := omega) only [Option.bind_some, tc_bs, tq_let, tc_I1, tc_I2, tc_J1, tc_J2, tc_J3, tc_F1, tc_F2, tc_F3, tc_F4, tc_G1, tc_G2, tc_G3, tc_G4, tc_G5, tc_us, tc_un, s_one, s_holds, s_J13_bitCount, bz_bI, f_X8_keepMade, hT41.f], e3, b1, s_X3_count (S := S) hT1 b2, b2, b3, fun j hj hk2 => ?_, fun j hj hk2 => ?_, b5, b6, b7, kall⟩
  · rw [h34 j hj, (Dv k).numF_at w2 _ hj _ (Nat.le_refl _), if_pos ⟨hj, hk2⟩]
  · rw [h34 j hj, (Dv k).numF_at w2 _ hj _ (Nat.le_refl _), if_neg (fun z => z.2 hk2)]
    rw [show c1.1 74 ((Dv k).ord j) = _ from a5 _ ((Dv k).ord_lt w2 hj)]
    exact w5 j hj hk2
end TKV
