/-! ===== finders that are ready, readers that are fresh ===== -/
section FIN
variable {S : tq_H} {c c' c1 c2 : tc_C} {di : DI} {D : Doc} {m : Nat} {U : Ups} {P : Pat} {H Q : Nat → Bool} {Z : Sma} {X : Nat → Bool} {nw : Nat} {ed : Option Nat} {nv : Nat} {vt mv : Nat → Nat} {Dv : Nat → Doc} {p q r k b i : Nat} {x y y4 a : Int32}
theorem Kp.sc (h : Kp b (b + 7) c c') (hb : b = 117 ∨ b = 124) : Sc c c' := by
  obtain ⟨h1, h2, h3, h4, h5⟩ := h
  exact ⟨fun a ha => h1 a (by omega), fun a ha => h2 a (by omega), fun q k hq => by rw [h3 q (by omega)], fun q k hq => by rw [h4 q (by omega)], h5⟩
theorem Rf.sc (h : Rf c c') : Sc c c' := by
  obtain ⟨h1, h2, h3, h4, h5⟩ := h
  exact ⟨fun a ha => h1 a (by omega), fun a ha => h2 a (by omega), fun q k hq => by rw [h3], fun q k hq => by rw [h4 q (by omega)], h5⟩
theorem GF.rf (h : GF c D P H) (hq : Cor S c di D m U P H Z X nw ed nv vt mv Dv) (k : Rf c c') : GF c' D P H := by
  obtain ⟨h1, h2, h3, h4, h5⟩ := k
  exact h.of hq (Rf.sc ⟨h1, h2, h3, h4, h5⟩) (fun a _ _ => h1 a (by omega)) (fun a _ _ => h2 a (by omega)) (fun q k _ _ => by rw [h3]) (fun q k _ _ => by rw [h4 q (by omega)]) (by rw [h3])
/-- a finder's tables, kept by what works elsewhere -/
theorem FT.kp {lo hi : Nat} (h : FT c b D P Q r) (hl : Lay c' 1 D) (hp : PC c' 98 P) (k : Kp lo hi c c') (hd : b + 7 ≤ lo ∨ hi ≤ b) : FT c' b D P Q r := by
  obtain ⟨h1, h2, h3, h4, h5⟩ := k
  obtain ⟨⟨-, -, f3, f4⟩, f5, f6⟩ := h
  exact ⟨⟨hl, hp, by rw [h4 b (by omega)]; exact f3, fun i hi => by rw [h1 (b + 6) (by omega)]; exact f4 i hi⟩, by rw [h3 b (by omega)]; exact f5, fun p i hp hi => by rw [h2 (b + 2) (by omega)]; exact f6 p i hp hi⟩
theorem Cor.fa (h : Cor S c di D m U P H Z X nw ed nv vt mv Dv) : tc_Fnd S 117 ∧ tc_Fnd S 124 := h.1.2.2.2.2.1
theorem Cor.prepA (h : Cor S c di D m U P H Z X nw ed nv vt mv Dv) (hF : GF c D P H) (hp : p < P.n) :
    ∃ c', f_X2_prepare 117 (nI p) (tc_mk S c) = some (tc_mk S c') ∧ Cor S c' di D m U P H Z X nw ed nv vt mv Dv ∧ GF c' D P H ∧ Sc c c' ∧ c'.2.2.1 0 18 = c.2.2.1 0 18 ∧ c'.2.2.1 155 = c.2.2.1 155 ∧ c'.2.1 205 = c.2.1 205 ∧ ∃ r, p < r ∧ r ≤ P.n ∧ FT c' 117 D P D.al r := by
  obtain ⟨⟨r, r1, f⟩, st, s1, s2⟩ := hF
  obtain ⟨c', v1, v2, v3⟩ := s_X2_prepare h.fa.1 (Nat.le_refl 117) h.t1 h.pth h.gt.1.1 f r1 h.gp.2.2 (fun j hj => D.al_in hj) hp
  have ks : Sc c c' := (v3.mono (Nat.le_refl 117) (by omega) : Kp 117 (117 + 7) c c').sc (.inl rfl)
  have hC := h.sc ks
  have e18 : c'.2.2.1 0 18 = c.2.2.1 0 18 := by rw [v3.2.2.1 0 (by omega)]
  refine ⟨c', v1, hC, ⟨⟨_, by omega, v2⟩, st, by rw [e18]; exact s1, fun hs => ?_⟩, ks, e18, v3.2.2.1 155 (by omega), v3.2.1 205 (by omega), max r (p + 1), by omega, by omega, v2⟩
  obtain ⟨r', r1', f'⟩ := s2 hs
  exact ⟨r', r1', f'.kp hC.gt.2.1 hC.gp.1 v3 (by omega)⟩
theorem Cor.prepR (h : Cor S c di D m U P H Z X nw ed nv vt mv Dv) (hF : GF c D P H) (hs : c.2.2.1 0 18 = 0) (hp : p < P.n) :
    ∃ c', f_X2_prepare 124 (nI p) (tc_mk S c) = some (tc_mk S c') ∧ Cor S c' di D m U P H Z X nw ed nv vt mv Dv ∧ GF c' D P H ∧ Sc c c' ∧ c'.2.2.1 155 = c.2.2.1 155 ∧ c'.2.1 205 = c.2.1 205 ∧ ∃ r, p < r ∧ r ≤ P.n ∧ FT c' 124 D P (D.sn P H) r := by
  obtain ⟨⟨r0, r10, f0⟩, st, s1, s2⟩ := hF
  have hst : st = false := by
    cases st with
    | false => rfl
    | true => rw [hs] at s1; exact absurd s1 (by decide)
  obtain ⟨r, r1, f⟩ := s2 hst
  obtain ⟨c', v1, v2, v3⟩ := s_X2_prepare h.fa.2 (by omega) h.t1 h.pth h.gt.1.1 f r1 h.gp.2.2 (fun j hj => D.sn_in hj) hp
  have ks : Sc c c' := (v3.mono (Nat.le_refl 124) (by omega) : Kp 124 (124 + 7) c c').sc (.inr rfl)
  have hC := h.sc ks
  have e18 : c'.2.2.1 0 18 = c.2.2.1 0 18 := by rw [v3.2.2.1 0 (by omega)]
  exact ⟨c', v1, hC, ⟨⟨r0, r10, f0.kp hC.gt.2.1 hC.gp.1 v3 (by omega)⟩, st, by rw [e18]; exact s1, fun _ => ⟨_, by omega, v2⟩⟩, ks, v3.2.2.1 155 (by omega), v3.2.1 205 (by omega), max r (p + 1), by omega, by omega, v2⟩
/-- the reader, made fresh -/
theorem Cor.refr (h : Cor S c di D m U P H Z X nw ed nv vt mv Dv) (hF : GF c D P H) :
    ∃ c', f_X10_refreshedReader 0 (tc_mk S c) = some (124, tc_mk S c') ∧ Cor S c' di D m U P H Z X nw ed nv vt mv Dv ∧ GF c' D P H ∧ c'.2.2.1 0 18 = 0 ∧ c'.2.2.1 155 = c.2.2.1 155 ∧ c'.2.1 205 = c.2.1 205 ∧ ∃ r, r ≤ P.n ∧ FT c' 124 D P (D.sn P H) r := by
  have hF0 := hF
  obtain ⟨fa, st, s1, s2⟩ := hF
  cases hst : st with
  | false =>
    rw [hst] at s1
    have s1 : c.2.2.1 0 18 = 0 := s1
    exact ⟨c, by simp (maxSteps := 3000000) (disch := omega) only [Option.bind_some, tc_bs, tq_let, tc_I1, tc_I2, tc_J1, tc_J2, tc_J3, tc_F1, tc_F2, tc_F3, tc_F4, tc_G1, tc_G2, tc_G3, tc_G4, tc_G5, tc_us, tc_un, s_one, s_holds, s_J13_bitCount, bz_bI, f_X10_refreshedReader, h.tq.f, s1, if_true], h, hF0, s1, rfl, rfl, s2 hst⟩
  | true =>
    rw [hst] at s1
    have n1 : ¬ c.2.2.1 0 18 = 0 := by rw [s1]; decide
    have hw := h.gt.1.1
    have hn := D.n_le hw
    have h20 := h.gp.2.2.1
    have hi117 : ∀ c, tq_is (tc_mk S c) 117 2 = some () := fun c => by have := h.fa.1; simp (maxSteps := 3000000) (disch := omega) only [Option.bind_some, tc_bs, tq_let, tc_I1, tc_I2, tc_J1, tc_J2, tc_J3, tc_F1, tc_F2, tc_F3, tc_F4, tc_G1, tc_G2, tc_G3, tc_G4, tc_G5, tc_us, tc_un, s_one, s_holds, s_J13_bitCount, bz_bI, this.f]
    have hi124 : ∀ c, tq_is (tc_mk S c) 124 2 = some () := fun c => by have := h.fa.2; simp (maxSteps := 3000000) (disch := omega) only [Option.bind_some, tc_bs, tq_let, tc_I1, tc_I2, tc_J1, tc_J2, tc_J3, tc_F1, tc_F2, tc_F3, tc_F4, tc_G1, tc_G2, tc_G3, tc_G4, tc_G5, tc_us, tc_un, s_one, s_holds, s_J13_bitCount, bz_bI, this.f]
    obtain ⟨y, y1, y2, y3, y4, y5, y6, y7⟩ := tc_run (B := f_X10_refreshedReader_b16 0) P.n (fun k y => (mkS (fun j => anyB (fun p => H p && D.fnd P D.al p 0 j) k), nI k, tc_mk S y))
      (fun k y => Cor S y di D m U P H Z X nw ed nv vt mv Dv ∧ GF y D P H ∧ Sc c y ∧ y.2.2.1 0 18 = c.2.2.1 0 18 ∧ y.2.2.1 155 = c.2.2.1 155 ∧ y.2.1 205 = c.2.1 205) (fun y => (mkS (fun j => anyB (fun p => H p && D.fnd P D.al p 0 j) P.n), tc_mk S y)) (by omega) (fun k y hk hy => by
        obtain ⟨y1, y2, y3, y4, y5, y6⟩ := hy
        have e1 := y1.gp.1.1
        have e2 : ¬ nI k ≥ nI P.n := nI_ge hk (by omega)
        have e3 : hasI (y.2.2.2.1 0 15) (nI k) = H k := by rw [y1.2.2.2.2.2.1.1, hasI_mkS _ (by omega)]
        cases hH : H k with
        | false =>
          rw [hH] at e3
          have b0 : bI false = 0 := rfl
          have es : (fun j => anyB (fun p => H p && D.fnd P D.al p 0 j) (k + 1)) = (fun j => anyB (fun p => H p && D.fnd P D.al p 0 j) k) := by
            funext j; rw [anyB, hH]; simp
          rw [es]
          exact ⟨y, by simp (maxSteps := 3000000) (disch := omega) only [Option.bind_some, tc_bs, tq_let, tc_I1, tc_I2, tc_J1, tc_J2, tc_J3, tc_F1, tc_F2, tc_F3, tc_F4, tc_G1, tc_G2, tc_G3, tc_G4, tc_G5, tc_us, tc_un, s_one, s_holds, s_J13_bitCount, bz_bI, f_X10_refreshedReader_b16, f_X4_count, h.tq.f, h.pth.f, e1, e2, e3, b0, if_true, if_false, nI_1], y1, y2, y3, y4, y5, y6⟩
        | true =>
          rw [hH] at e3
          have b1 : ¬ bI true = 0 := by decide
          obtain ⟨w, w1, w2, w3, w4, w5, w6, w7, r, r1, r2, r3⟩ := y1.prepA y2 hk
          have e4 := s_X2_foundFrom h.fa.1 hw r3 r1 (by omega) (D.n_pos hw)
          have e4 : f_X2_foundFrom 117 (nI k) 0 (tc_mk S w) = some (mkS (D.fnd P D.al k 0)) := e4
          have es : mkS (fun j => anyB (fun p => H p && D.fnd P D.al p 0 j) k) ||| mkS (D.fnd P D.al k 0) = mkS (fun j => anyB (fun p => H p && D.fnd P D.al p 0 j) (k + 1)) := by
            rw [mkS_or]
            refine mkS_cong fun j _ => ?_
            rw [anyB, hH]; simp
          exact ⟨w, by simp (maxSteps := 3000000) (disch := omega) only [Option.bind_some, tc_bs, tq_let, tc_I1, tc_I2, tc_J1, tc_J2, tc_J3, tc_F1, tc_F2, tc_F3, tc_F4, tc_G1, tc_G2, tc_G3, tc_G4, tc_G5, tc_us, tc_un, s_one, s_holds, s_J13_bitCount, bz_bI, f_X10_refreshedReader_b16, f_X4_count, h.tq.f, h.pth.f, hi117, e1, e2, e3, b1, w1, e4, es, if_true, if_false, nI_1], w2, w3, y3.trans w4, w5.trans y4, w6.trans y5, w7.trans y6⟩) (fun y hy => by
        have e1 := hy.1.gp.1.1
        have e2 : nI P.n ≥ nI P.n := Int32.le_refl _
        simp (maxSteps := 3000000) (disch := omega) only [Option.bind_some, tc_bs, tq_let, tc_I1, tc_I2, tc_J1, tc_J2, tc_J3, tc_F1, tc_F2, tc_F3, tc_F4, tc_G1, tc_G2, tc_G3, tc_G4, tc_G5, tc_us, tc_un, s_one, s_holds, s_J13_bitCount, bz_bI, f_X10_refreshedReader_b16, f_X4_count, h.tq.f, h.pth.f, e1, e2, if_true]) (x := c) ⟨h, hF0, Sc.refl c, rfl, rfl, rfl⟩
    have e0 : (mkS (fun j => anyB (fun p => H p && D.fnd P D.al p 0 j) 0), nI 0, tc_mk S c) = ((0 : Int64), (0 : Int32), tc_mk S c) := by
      rw [show (fun j => anyB (fun p => H p && D.fnd P D.al p 0 j) 0) = fun _ => false from rfl, ← mkS_0]; rfl
    rw [e0] at y1
    have g0 : ∀ c, tq_gr (tc_mk S c) 1 8 0 = some 2 := fun c => by have := h.t1; simp (maxSteps := 3000000) (disch := omega) only [Option.bind_some, tc_bs, tq_let, tc_I1, tc_I2, tc_J1, tc_J2, tc_J3, tc_F1, tc_F2, tc_F3, tc_F4, tc_G1, tc_G2, tc_G3, tc_G4, tc_G5, tc_us, tc_un, s_one, s_holds, s_J13_bitCount, bz_bI, this.f]
    have g1 : ∀ c, tq_is (tc_mk S c) 2 3 = some () := fun c => by have := h.t1; simp (maxSteps := 3000000) (disch := omega) only [Option.bind_some, tc_bs, tq_let, tc_I1, tc_I2, tc_J1, tc_J2, tc_J3, tc_F1, tc_F2, tc_F3, tc_F4, tc_G1, tc_G2, tc_G3, tc_G4, tc_G5, tc_us, tc_un, s_one, s_holds, s_J13_bitCount, bz_bI, this.f]
    have v19 : oneI 0 = mkS (fun j => decide (j = 0)) := by rw [show oneI 0 = b1 0 from oneI_in (m := 0) (by decide)]; exact mkS_b1 0
    have es : mkS (fun j => anyB (fun p => H p && D.fnd P D.al p 0 j) P.n) &&& (oneI 0 ^^^ (-1)) = mkS (fun s => D.gone P H s && decide (s ≠ 0)) := by
      rw [v19, mkS_not, mkS_and]
      refine mkS_cong fun j _ => ?_
      unfold Doc.gone
      by_cases e : j = 0 <;> simp [e]
    have e20 : f_X3_spread 2 (mkS (fun s => D.gone P H s && decide (s ≠ 0))) (tc_mk S y) = _ := s_X3_spread (c := y) h.t1 hw y2.gt.2.1 (fun s => D.gone P H s && decide (s ≠ 0))
    have e25 : f_X3_everything 2 (tc_mk S y) = _ := s_X3_everything (c := y) h.t1 hw y2.gt.2.1
    have e26 : mkS (fun j => decide (j < D.n)) &&& (mkS (D.spread fun s => D.gone P H s && decide (s ≠ 0)) ^^^ (-1)) = mkS (D.sn P H) := by
      rw [mkS_not, mkS_and]; rfl
    obtain ⟨w, w1, w2, w3⟩ := s_X2_start h.fa.2 (by omega) h.t1 hw y2.gt.2.1 y2.gt.2.2.1 y2.gp.1 (D.sn P H)
    have ks : Sc y w := w3.sc (.inr rfl)
    have hC := y2.sc ks
    have hC2 := hC.sc (Sc.F (q := 0) (k := 18) (0 : Int32) (by omega) : Sc w (tc_F w 0 18 0))
    have kf : ∀ q, 117 ≤ q → (tc_F w 0 18 0).2.2.1 q = w.2.2.1 q := fun q hq => by rw [tc_F3, tc_un _ _ (by omega)]
    have hF2 : FT (tc_F w 0 18 0) 124 D P (D.sn P H) 0 := by
      obtain ⟨⟨-, -, f3, f4⟩, f5, f6⟩ := w2
      exact ⟨⟨hC2.gt.2.1, hC2.gp.1, f3, f4⟩, by rw [kf 124 (by omega)]; exact f5, f6⟩
    refine ⟨tc_F w 0 18 0, by simp (maxSteps := 3000000) (disch := omega) only [Option.bind_some, tc_bs, tq_let, tc_I1, tc_I2, tc_J1, tc_J2, tc_J3, tc_F1, tc_F2, tc_F3, tc_F4, tc_G1, tc_G2, tc_G3, tc_G4, tc_G5, tc_us, tc_un, s_one, s_holds, s_J13_bitCount, bz_bI, f_X10_refreshedReader, h.tq.f, n1, y1, g0, g1, es, e20, e25, e26, hi124, w1, if_false], hC2, ⟨?_, false, by simp (maxSteps := 3000000) (disch := omega) only [Option.bind_some, tc_bs, tq_let, tc_I1, tc_I2, tc_J1, tc_J2, tc_J3, tc_F1, tc_F2, tc_F3, tc_F4, tc_G1, tc_G2, tc_G3, tc_G4, tc_G5, tc_us, tc_un, s_one, s_holds, s_J13_bitCount, bz_bI, if_true]; rfl, fun _ => ⟨0, Nat.zero_le _, hF2⟩⟩, by simp (maxSteps := 3000000) (disch := omega) only [Option.bind_some, tc_bs, tq_let, tc_I1, tc_I2, tc_J1, tc_J2, tc_J3, tc_F1, tc_F2, tc_F3, tc_F4, tc_G1, tc_G2, tc_G3, tc_G4, tc_G5, tc_us, tc_un, s_one, s_holds, s_J13_bitCount, bz_bI, if_true], ?_, ?_, 0, Nat.zero_le _, hF2⟩
    · obtain ⟨⟨r, r1, f⟩, -⟩ := y3
      obtain ⟨⟨-, -, f3, f4⟩, f5, f6⟩ := f.kp hC.gt.2.1 hC.gp.1 w3 (by omega)
      exact ⟨r, r1, ⟨hC2.gt.2.1, hC2.gp.1, f3, f4⟩, by rw [kf 117 (by omega)]; exact f5, f6⟩
    · rw [kf 155 (by omega), w3.2.2.1 155 (by omega)]; exact y6
    · show w.2.1 205 = _
      rw [w3.2.1 205 (by omega)]; exact y7
/-- the finder that is read with, and what it sees -/
theorem Cor.fnd (h : Cor S c di D m U P H Z X nw ed nv vt mv Dv) (hF : GF c D P H) :
    ∃ b c' Q r, ((if c.2.2.1 0 17 = 0 then (tq_gr (tc_mk S c) 0 10 4).bind fun k2 => some (k2, tc_mk S c) else (tq_is (tc_mk S c) 0 10).bind fun _ => (f_X10_refreshedReader 0 (tc_mk S c)).bind fun v3 => some (v3.1, v3.2)) = some (b, tc_mk S c')) ∧
      Cor S c' di D m U P H Z X nw ed nv vt mv Dv ∧ GF c' D P H ∧ tc_Fnd S b ∧ (∀ j, Q j = true → j < D.n) ∧ r ≤ P.n ∧ FT c' b D P Q r ∧ Q = (if c'.2.2.1 155 32 = 0 then D.al else D.sn P H) ∧
      ∀ p d, p < P.n → Cor S d di D m U P H Z X nw ed nv vt mv Dv → GF d D P H → d.2.2.1 0 18 = c'.2.2.1 0 18 → ∃ d', f_X2_prepare b (nI p) (tc_mk S d) = some (tc_mk S d') ∧ Cor S d' di D m U P H Z X nw ed nv vt mv Dv ∧ GF d' D P H ∧ d'.2.2.1 155 = d.2.2.1 155 ∧ d'.2.1 205 = d.2.1 205 ∧ ∃ r, p < r ∧ r ≤ P.n ∧ FT d' b D P Q r := by
  obtain ⟨-, -, -, rd, a1, a2⟩ := h.2.2.2.2.2.1
  cases hr : rd with
  | false =>
    rw [hr] at a1 a2
    have a1 : c.2.2.1 0 17 = 0 := a1
    have a2 : c.2.2.1 155 32 = 0 := a2
    obtain ⟨⟨r, r1, f⟩, -⟩ := id hF
    refine ⟨117, c, D.al, r, ?_, h, hF, h.fa.1, fun j hj => D.al_in hj, r1, f, by rw [if_pos a2], fun p d hp hd hFd _ => ?_⟩
    · rw [if_pos a1]; simp (maxSteps := 3000000) (disch := omega) only [Option.bind_some, tc_bs, tq_let, tc_I1, tc_I2, tc_J1, tc_J2, tc_J3, tc_F1, tc_F2, tc_F3, tc_F4, tc_G1, tc_G2, tc_G3, tc_G4, tc_G5, tc_us, tc_un, s_one, s_holds, s_J13_bitCount, bz_bI, h.tq.f]
    · obtain ⟨d', v1, v2, v3, v4, v5, v6, v7, v8⟩ := hd.prepA hFd hp
      exact ⟨d', v1, v2, v3, v6, v7, v8⟩
  | true =>
    rw [hr] at a1 a2
    have n1 : ¬ c.2.2.1 0 17 = 0 := by rw [a1]; decide
    obtain ⟨c', v1, v2, v3, v4, v5, v6, r, r1, f⟩ := h.refr hF
    refine ⟨124, c', D.sn P H, r, ?_, v2, v3, h.fa.2, fun j hj => D.sn_in hj, r1, f, ?_, fun p d hp hd hFd e => ?_⟩
    · rw [if_neg n1]
      simp (maxSteps := 3000000) (disch := omega) only [Option.bind_some, tc_bs, tq_let, tc_I1, tc_I2, tc_J1, tc_J2, tc_J3, tc_F1, tc_F2, tc_F3, tc_F4, tc_G1, tc_G2, tc_G3, tc_G4, tc_G5, tc_us, tc_un, s_one, s_holds, s_J13_bitCount, bz_bI, h.tq.f, v1]
    · rw [v5, if_neg (by rw [a2]; decide)]
    · obtain ⟨d', u1, u2, u3, u4, u5, u6, u7⟩ := hd.prepR hFd (by rw [e]; exact v4) hp
      exact ⟨d', u1, u2, u3, u5, u6, u7⟩
/-- a case whose calls leave the state but for what they work with -/
theorem arm_gen {L : Option (Int32 × tq_H)} {R : tq_H → Option (Int32 × tq_H)} (hC : Cor S c1 di D m U P H Z X nw ed nv vt mv Dv) (hF : GF c1 D P H)
    (hL : (∃ a c2, L = some (0, tc_mk S (ansC c1 a.toInt64)) ∧ R (tc_mk S (ansC c1 a.toInt64)) = some (a, tc_mk S c2) ∧ Cor S c2 di D m U P H Z X nw ed nv vt mv Dv ∧ GF c2 D P H ∧ c2.2.2.1 155 0 = 0 ∧ c2.2.1 205 = (ansC c1 a.toInt64).2.1 205) ∨
      ∃ k b c2, k ≠ 0 ∧ L = some (k, tc_mk S c1) ∧ R (tc_mk S c1) = some (b, tc_mk S c2) ∧ Cor S c2 di D m U P H Z X nw ed nv vt mv Dv ∧ GF c2 D P H ∧ c2.2.2.1 155 0 = k) :
    ∃ h', armI L R y4 = some (.inl (y4 + 5, h')) ∧ InvE di h' := by
  rcases hL with ⟨a, c2, h1, h2, h3, h4, h5, h6⟩ | ⟨k, b, c2, h0, h1, h2, h3, h4, h5⟩
  · exact ⟨_, armI_ok hC.mod hC.mod hC.tq h1 h2 h5 (fun _ => by rw [h6]; unfold ansC; rw [tc_J2, tc_us, updL_s]), S, c2, D, m, U, P, H, Z, X, nw, ed, nv, vt, mv, Dv, rfl, h3, h4⟩
  · exact ⟨_, armI_ok hC.mod hC.mod hC.tq h1 h2 h5 (fun z => absurd z h0), S, c2, D, m, U, P, H, Z, X, nw, ed, nv, vt, mv, Dv, rfl, h3, h4⟩
end FIN
