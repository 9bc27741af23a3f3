/-! ===== the reference tells how far two versions are from each other ===== -/
abbrev Rd1 (a : Nat) : Prop := (41 ≤ a ∧ a ≤ 80) ∨ a = 97 ∨ (140 ≤ a ∧ a ≤ 147) ∨ (156 ≤ a ∧ a ≤ 161) ∨ (163 ≤ a ∧ a ≤ 166) ∨ (168 ≤ a ∧ a ≤ 174) ∨ a = 182 ∨ a = 188 ∨ (200 ≤ a ∧ a ≤ 204)
abbrev ly1 (a : Nat) : Prop := (157 ≤ a ∧ a ≤ 166 ∧ a ≠ 162) ∨ (200 ≤ a ∧ a ≤ 202)
abbrev dr1 (a : Nat) : Prop := (157 ≤ a ∧ a ≤ 166 ∧ a ≠ 162) ∨ (168 ≤ a ∧ a ≤ 173) ∨ (200 ≤ a ∧ a ≤ 204)
abbrev dr3 (q k : Nat) : Prop := q = 155 ∧ (k = 0 ∨ k = 11)
section RDI
variable {S : tq_H} {c c' c1 c2 d d1 : tc_C} {di : DI} {D E : Doc} {m M : Nat} {U U' : Ups} {P : Pat} {H : Nat → Bool} {Z : Sma} {X : Nat → Bool} {nw : Nat} {ed : Option Nat} {nv : Nat} {vt mv : Nat → Nat} {Dv : Nat → Doc} {p q r k b i j n z s : Nat}
theorem Cor.back2 (h : Cor S c di D m U P H Z X nw ed nv vt mv Dv) (hF : GF c D P H) (k : Wr Rd1 R2 R3 R4 c c') (hR : RTree c' D m) (hO : ROrd c' D) (hkd : ∀ v, v < m → c'.1 156 v = c.1 156 v) : InvE di (tc_mk S c') := by
  obtain ⟨g0, g1, g2, g3, g4, g5, g6, g7, g8, g9, g10⟩ := h
  obtain ⟨k1, k2, k3, k4, k5⟩ := id k
  have hg : GT c' D m := ⟨g1.1, g1.2.1.pt (fun a _ _ => k1 a (by omega)) (fun a _ _ => k2 a (by omega)) (k3 _ _ (by omega)) (k4 _ _ (by omega)) (k4 _ _ (by omega)), g1.2.2.1.pt (fun a _ _ => k1 a (by omega)) (k3 _ _ (by omega)), hR, hO⟩
  have hp := g4.wr k (fun a _ => by omega) (fun q k _ => by omega)
  have hK : GK c' m nv vt mv Dv := by
    obtain ⟨h1, h2, h3, h4, h5⟩ := g9
    obtain ⟨-, -, -, -, -, -, -, -, hv, -⟩ := g0
    refine ⟨by rw [k3 0 12 (by omega)]; exact h1, by rw [k3 155 49 (by omega)]; exact h2, h3, by rw [k5]; exact h4, fun j hj => ?_⟩
    obtain ⟨a1, a2, a3, a4, a5, a6, a7, a8⟩ := h5 j hj
    obtain ⟨-, v1, v2⟩ := hv j hj
    refine ⟨by rw [k5]; exact a1, a2, a3.pt (fun a _ _ => k1 a (by omega)) (fun a _ _ => k2 a (by omega)) (k3 _ _ (by omega)) (k4 _ _ (by omega)) (k4 _ _ (by omega)), a4.pt (fun a _ _ => k1 a (by omega)) (k3 _ _ (by omega)), by rw [k1 (vt j + 33) (by omega)]; exact a5, a6.pt (fun a _ _ => k1 a (by omega)), a7, fun i hi => ?_⟩
    rw [hkd _ (Nat.lt_of_lt_of_le (a4.2.1 i hi) a7)]
    exact a8 i hi
  exact ⟨S, c', D, m, U, P, H, Z, X, nw, ed, nv, vt, mv, Dv, rfl, ⟨g0, hg, g2.wr k (fun a _ => by omega) (fun q k _ => by omega), g3.wr k (fun a _ => by omega) (fun q k _ => by omega), hp, g5.wr k (fun a _ => by omega) (fun q k _ => by omega) (fun q k _ => by omega), g6.wr k (fun a _ => by omega) (fun q k _ => by omega), g7.wr k (fun a _ => by omega) (fun q k _ => by omega), g8.wr k (fun a _ => by omega) (fun a _ => by omega) (fun q k _ => by omega), hK, g10.wr g0 k (fun a _ => by omega) (fun q k _ => by omega)⟩, hF.wr hg.2.1 hp.1 k (fun a _ => by omega) (fun a _ => by omega) (fun q k _ => by omega) (fun q k _ => by omega)⟩
theorem r_layOut (hM : tc_Mod S z) (hw : D.wf) (ha : D.ao) (hk : k < 6) (h : KV c k D) (h1 : c.2.2.1 155 1 = nI m) (hm : m ≤ 60 ∧ ∀ i, i < D.n → D.ord i < m) (hkd : ∀ i, i < D.n → c.1 156 (D.ord i) = D.kd i) (hs : s ≤ 1) :
    ∃ c', f_X11_layOut 155 (nI s) (nI k) (tc_mk S c) = some (tc_mk S c') ∧ c'.1 200 s = nI D.n ∧ (∀ x, x ≠ s → c'.1 200 x = c.1 200 x) ∧ (∀ p, p < D.n → c'.1 201 (61 * s + (p + 1)) = nI (D.ord (D.ip p)) ∧ c'.1 202 (61 * s + (p + 1)) = nI (D.lf p + 1)) ∧ (∀ x, x < 61 * s ∨ 61 * s + 61 ≤ x → c'.1 201 x = c.1 201 x ∧ c'.1 202 x = c.1 202 x) ∧ Wr ly1 uc2 ld3 u4 c c' := by
  obtain ⟨c1, a1, a2, a3, a4⟩ := s_X11_load (S := S) hM hw ha hk h h1 hm hkd
  obtain ⟨c2, e2⟩ : ∃ c2, c2 = tc_I c1 200 (upd (c1.1 200) s (nI D.n)) := ⟨_, rfl⟩
  have k2 : Wr (fun a => a = 200) uc2 l3w u4 c1 c2 := by rw [e2]; exact Wr.I _ rfl
  obtain ⟨c3, b1, b2, b3, b4, b5⟩ := r_lay (S := S) (s := s) hM hw (a2.wr k2 (fun a _ => by omega) (fun z => z)) (a3.wr k2 (fun a _ => by omega) (fun z => z)) hs
  have o1 : c1.2.2.1 155 11 = nI D.n := a3.1
  have is11 : ∀ c, tq_is (tc_mk S c) 155 11 = some () := fun c => by simp (maxSteps := 3000000) (disch := omega) only [Option.bind_some, tc_bs, tq_let, tc_I1, tc_I2, tc_J1, tc_J2, tc_J3, tc_F1, tc_F2, tc_F3, tc_F4, tc_G1, tc_G2, tc_G3, tc_G4, tc_G5, tc_us, tc_un, s_one, s_holds, s_J13_bitCount, bz_bI, hM.f]
  have ls : s < 2 := by omega
  refine ⟨c3, ?_, ?_, fun x hx => ?_, b2, fun x hx => ?_, ?_⟩
  · simp (maxSteps := 3000000) (disch := omega) only [Option.bind_some, tc_bs, tq_let, tc_I1, tc_I2, tc_J1, tc_J2, tc_J3, tc_F1, tc_F2, tc_F3, tc_F4, tc_G1, tc_G2, tc_G3, tc_G4, tc_G5, tc_us, tc_un, s_one, s_holds, s_J13_bitCount, bz_bI, f_X11_layOut, is11, a1, hM.f, o1]
    rw [← e2]
    simp (maxSteps := 3000000) (disch := omega) only [Option.bind_some, tc_bs, tq_let, tc_I1, tc_I2, tc_J1, tc_J2, tc_J3, tc_F1, tc_F2, tc_F3, tc_F4, tc_G1, tc_G2, tc_G3, tc_G4, tc_G5, tc_us, tc_un, s_one, s_holds, s_J13_bitCount, bz_bI, b1]
  · rw [b4 200 (by omega) (by omega), e2, tc_I1, tc_us, upd_s]
  · rw [b4 200 (by omega) (by omega), e2, tc_I1, tc_us, upd_n _ _ hx, a4.1 200 (by omega)]
  · obtain ⟨w1, w2⟩ := b3 x hx
    rw [w1, w2, e2, tc_I1, tc_un _ _ (by omega), tc_un _ _ (by omega), a4.1 201 (by omega), a4.1 202 (by omega)]
    exact ⟨rfl, rfl⟩
  · have k3 : Wr ly1 uc2 ld3 u4 c2 c3 := ⟨fun a ha => b4 a (by omega) (by omega), fun a _ => by rw [b5], fun q k _ => by rw [b5], fun q k _ => by rw [b5], by rw [b5]⟩
    exact ((a4.mono (fun a z => by omega) (fun _ z => z) (fun _ _ z => z) (fun _ _ z => z)).trans (k2.mono (fun a z => by omega) (fun _ z => z) (fun _ _ z => z.elim) (fun _ _ z => z))).trans k3
theorem Cor.distR (h : Cor S c di D m U P H Z X nw ed nv vt mv Dv) (hF : GF c D P H) (hi : i < nv) (hj : j < nv) :
    ∃ c', f_X11_distance 155 (nI i) (nI j) (tc_mk S c) = some (dist (Dv i) (Dv j), tc_mk S c') ∧ c'.2.2.1 155 0 = 0 ∧ c'.2.1 205 = c.2.1 205 ∧ InvE di (tc_mk S c') := by
  obtain ⟨v1, v2, v3, v4, v5⟩ := h.gk
  obtain ⟨-, ⟨w1, w1'⟩, -, x1, -, n1, m1, p1⟩ := v5 i hi
  obtain ⟨-, ⟨w2, w2'⟩, -, x2, -, n2, m2, p2⟩ := v5 j hj
  have hw := h.gt.1.1
  have hm60 := h.gt.2.2.1.1
  have hM := h.mod
  have a1 := h.gt.2.2.2.1
  have n10 : ¬ (1 : Int32) = 0 := by decide
  have z0 : tq_bz 0 = some 0 := rfl
  have is11 : ∀ c, tq_is (tc_mk S c) 155 11 = some () := fun c => by simp (maxSteps := 3000000) (disch := omega) only [Option.bind_some, tc_bs, tq_let, tc_I1, tc_I2, tc_J1, tc_J2, tc_J3, tc_F1, tc_F2, tc_F3, tc_F4, tc_G1, tc_G2, tc_G3, tc_G4, tc_G5, tc_us, tc_un, s_one, s_holds, s_J13_bitCount, bz_bI, h.mod.f]
  have isv : ∀ k, k < nv → f_X11_isVersion 155 (nI k) (tc_mk S c) = some 1 := fun k hk => by
    obtain ⟨k', -, -, ek, -, hv⟩ := h.ver (x := nI k) ⟨nI_pos' (by omega), nI_lt hk (by omega)⟩
    exact hv c v2
  have isv1 := isv i hi
  have isv2 := isv j hj
  obtain ⟨e0, ee0⟩ : ∃ e0, e0 = tc_F c 155 0 0 := ⟨_, rfl⟩
  have k0 : Wr dr1 uc2 dr3 u4 c e0 := by rw [ee0]; exact Wr.F _ (by omega)
  have rt0 : RTree e0 D m := by rw [ee0]; exact a1.wr (Wr.F _ ⟨rfl, rfl⟩ : Wr uc2 uc2 x3w u4 c (tc_F c 155 0 0)) (fun _ _ z => z) (fun z => by omega)
  obtain ⟨e1, q1, q2, q3, q4⟩ := rp_start (S := S) (U := U) hM hw rt0
  obtain ⟨-, -, -, -, -, -, rmem⟩ := q2
  have k1 : Wr dr1 uc2 dr3 u4 e0 e1 := ⟨fun a ha => q3 a (by omega), fun a _ => by rw [q4], fun q k _ => by rw [q4], fun q k _ => by rw [q4], by rw [q4]⟩
  have k01 := k0.trans k1
  obtain ⟨e2, t1, t2, t3, t4, t5, t6⟩ := r_layOut (S := S) (s := 0) (k := i) (D := Dv i) (m := m) hM w1 w1' (by omega) (n1.wr k01 (fun a _ => by omega)) (by rw [k01.2.2.1 155 1 (by omega)]; exact a1.1) ⟨hm60, fun x hx => Nat.lt_of_lt_of_le (x1.2.1 x hx) m1⟩ (fun x hx => by rw [k01.1 156 (by omega)]; exact p1 x hx) (by omega)
  have k02 : Wr dr1 uc2 dr3 u4 c e2 := k01.trans (t6.mono (fun a z => by omega) (fun _ z => z) (fun q k z => by omega) (fun _ _ z => z))
  obtain ⟨e3, s1, s2, s3, s4, s5, s6⟩ := r_layOut (S := S) (s := 1) (k := j) (D := Dv j) (m := m) hM w2 w2' (by omega) (n2.wr k02 (fun a _ => by omega)) (by rw [k02.2.2.1 155 1 (by omega)]; exact a1.1) ⟨hm60, fun x hx => Nat.lt_of_lt_of_le (x2.2.1 x hx) m2⟩ (fun x hx => by rw [k02.1 156 (by omega)]; exact p2 x hx) (by omega)
  have k03 : Wr dr1 uc2 dr3 u4 c e3 := k02.trans (s6.mono (fun a z => by omega) (fun _ z => z) (fun q k z => by omega) (fun _ _ z => z))
  have hn1 := (Dv i).n_le w1
  have hn2 := (Dv j).n_le w2
  have hA : zRA (Dv i) (Dv j) e3 := ⟨fun p hp => by
      obtain ⟨y1, y2⟩ := s5 (p + 1) (.inl (by omega))
      rw [y1, y2]
      have := t4 p hp
      rw [show 61 * 0 + (p + 1) = p + 1 by omega] at this
      exact this, fun p hp => by
      have := s4 p hp
      rw [show 61 * 1 + (p + 1) = 61 + (p + 1) by omega] at this
      exact this, by rw [s3 0 (by omega)]; exact t2, s2⟩
  have hL : zAL i j (Dv i) (Dv j) e3 := ⟨n1.wr k03 (fun a _ => by omega), n2.wr k03 (fun a _ => by omega), fun x hx => by rw [k03.1 156 (by omega)]; exact p1 x hx, fun x hx => by rw [k03.1 156 (by omega)]; exact p2 x hx⟩
  obtain ⟨e4, u1, u2, u3⟩ := r_pairs (S := S) hM w1 w2 (by omega) (by omega) hA hL
  have k04 : Wr dr1 uc2 dr3 u4 c e4 := k03.trans ⟨fun a ha => u3.1 a (by omega) (by omega), fun a _ => by rw [u3.2], fun q k _ => by rw [u3.2], fun q k _ => by rw [u3.2], by rw [u3.2]⟩
  have hA4 := hA.eo u3
  have fin := zRI.end u2 ((Dv i).n_pos w1) ((Dv j).n_pos w2) ((Dv i).lf_end w1) ((Dv j).lf_end w2)
  have fin : e4.1 203 (61 * ((Dv i).n - 1 + 1) + ((Dv j).n - 1 + 1)) = dist (Dv i) (Dv j) := fin
  have hp1 := (Dv i).n_pos w1
  have hp2 := (Dv j).n_pos w2
  rw [show (Dv i).n - 1 + 1 = (Dv i).n by omega, show (Dv j).n - 1 + 1 = (Dv j).n by omega] at fin
  have kx : Wr (fun a => ¬ (168 ≤ a ∧ a ≤ 173)) uc2 dr3 u4 e1 e4 := by
    refine Wr.trans (t6.mono (fun a z => by omega) (fun _ z => z) (fun q k z => by omega) (fun _ _ z => z)) (Wr.trans (s6.mono (fun a z => by omega) (fun _ z => z) (fun q k z => by omega) (fun _ _ z => z)) ⟨fun a ha => u3.1 a (by omega) (by omega), fun a _ => by rw [u3.2], fun q k _ => by rw [u3.2], fun q k _ => by rw [u3.2], by rw [u3.2]⟩)
  have rmem4 : RMem e4 D := rmem.wr kx (fun a h1 h2 z => z ⟨h1, h2⟩)
  obtain ⟨e5, g1, g2, g3⟩ := RMem.back (S := S) hM hw ⟨hm60, h.gt.2.2.1.2.1⟩ (by rw [k04.2.2.1 155 1 (by omega)]; exact a1.1) (fun x hx => by
    rw [k04.1 156 (by omega)]; exact a1.2.2.2.2.1 x hx) rmem4
  obtain ⟨e6, y1, y2, y3⟩ := s_X11_arrange (S := S) hM hw h.gt.1.2 (fun x hx => RTree.ans hM hw (g2.af hx) h.gt.1.2)
  have rt6 := g2.af y3
  have k45 : Wr dr1 uc2 dr3 u4 e4 e5 := ⟨fun a ha => g3.1 a (by omega), fun a _ => by rw [g3.2], fun q k _ => by rw [g3.2], fun q k _ => by rw [g3.2], by rw [g3.2]⟩
  obtain ⟨f1, f2, f3, f4, f5, f6⟩ := y3
  have k56 : Wr dr1 uc2 dr3 u4 e5 e6 := ⟨fun a ha => f1 a (by omega), fun a _ => by rw [f2], fun q k hq => by
      by_cases z : q = 155
      · subst z; exact f4 k (by omega)
      · rw [f3 q z], fun q k _ => by rw [f5], f6⟩
  have k06 : Wr dr1 uc2 dr3 u4 c e6 := (k04.trans k45).trans k56
  have r200 : e6.1 200 = e4.1 200 := by rw [f1 200 (by omega), g3.1 200 (by omega)]
  have r203 : e6.1 203 = e4.1 203 := by rw [f1 203 (by omega), g3.1 203 (by omega)]
  have r0 : e6.1 200 0 = nI (Dv i).n := by rw [r200]; exact hA4.2.2.1
  have r1 : e6.1 200 1 = nI (Dv j).n := by rw [r200]; exact hA4.2.2.2
  have q200 : tq_ai (tc_mk S e6) 200 0 = some (nI (Dv i).n) := by
    have : tq_ai (tc_mk S e6) 200 (nI 0) = some (e6.1 200 0) := by simp (maxSteps := 3000000) (disch := omega) only [Option.bind_some, tc_bs, tq_let, tc_I1, tc_I2, tc_J1, tc_J2, tc_J3, tc_F1, tc_F2, tc_F3, tc_F4, tc_G1, tc_G2, tc_G3, tc_G4, tc_G5, tc_us, tc_un, s_one, s_holds, s_J13_bitCount, bz_bI, hM.f]
    rw [r0] at this; exact this
  have q201 : tq_ai (tc_mk S e6) 200 1 = some (nI (Dv j).n) := by
    have : tq_ai (tc_mk S e6) 200 (nI 1) = some (e6.1 200 1) := by simp (maxSteps := 3000000) (disch := omega) only [Option.bind_some, tc_bs, tq_let, tc_I1, tc_I2, tc_J1, tc_J2, tc_J3, tc_F1, tc_F2, tc_F3, tc_F4, tc_G1, tc_G2, tc_G3, tc_G4, tc_G5, tc_us, tc_un, s_one, s_holds, s_J13_bitCount, bz_bI, hM.f]
    rw [r1] at this; exact this
  have x4 : (61 : Int32) * nI (Dv i).n + nI (Dv j).n = nI (61 * (Dv i).n + (Dv j).n) := by rw [show (61 : Int32) = nI 61 from rfl, nI_mul, nI_add]
  have l1 : 61 * (Dv i).n + (Dv j).n < 3721 := by omega
  have e155 : e6.2.2.1 155 0 = 0 := by
    have z1 : e0.2.2.1 155 0 = 0 := by rw [ee0]; rfl
    rw [f4 0 (by omega), g3.2, u3.2, s6.2.2.1 155 0 (by omega), t6.2.2.1 155 0 (by omega), q4]; exact z1
  refine ⟨e6, ?_, e155, k06.2.1 205 (fun z => z), h.back2 hF (k06.mono (fun a z => by omega) (fun _ z => z.elim) (fun q k z => by omega) (fun _ _ z => z.elim)) rt6 y2 (fun v _ => by rw [k06.1 156 (by omega)])⟩
  have t1 : f_X11_layOut 155 0 (nI i) (tc_mk S e1) = some (tc_mk S e2) := t1
  have s1 : f_X11_layOut 155 1 (nI j) (tc_mk S e2) = some (tc_mk S e3) := s1
  simp (maxSteps := 3000000) (disch := omega) only [Option.bind_some, tc_bs, tq_let, tc_I1, tc_I2, tc_J1, tc_J2, tc_J3, tc_F1, tc_F2, tc_F3, tc_F4, tc_G1, tc_G2, tc_G3, tc_G4, tc_G5, tc_us, tc_un, s_one, s_holds, s_J13_bitCount, bz_bI, f_X11_distance, f_X11_refused, is11, isv1, isv2, n10, h.mod.f, z0, if_true, if_false]
  rw [← ee0]
  simp (maxSteps := 3000000) (disch := omega) only [Option.bind_some, tc_bs, tq_let, tc_I1, tc_I2, tc_J1, tc_J2, tc_J3, tc_F1, tc_F2, tc_F3, tc_F4, tc_G1, tc_G2, tc_G3, tc_G4, tc_G5, tc_us, tc_un, s_one, s_holds, s_J13_bitCount, bz_bI, q1, is11, t1, s1, u1, g1, y1, h.mod.f, q200, q201, x4, r203, fin]
end RDI
