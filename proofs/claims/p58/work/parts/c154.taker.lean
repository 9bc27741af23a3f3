/-! ===== a version is taken: the reference; the call ===== -/
abbrev X1 (a : Nat) : Prop := (157 ≤ a ∧ a ≤ 166) ∨ (168 ≤ a ∧ a ≤ 173) ∨ a = 182 ∨ a = 188 ∨ a = 192
abbrev Xb1 (a : Nat) : Prop := (157 ≤ a ∧ a ≤ 166 ∧ a ≠ 162) ∨ (168 ≤ a ∧ a ≤ 173) ∨ a = 188
abbrev X2 (a : Nat) : Prop := a = 179 ∨ a = 180 ∨ a = 193
abbrev X3 (q k : Nat) : Prop := q = 155 ∧ (k = 0 ∨ k = 11)
abbrev X4 (q _k : Nat) : Prop := q = 155
abbrev Y1 (a : Nat) : Prop := (1 ≤ a ∧ a ≤ 80) ∨ (117 ≤ a ∧ a ≤ 123) ∨ a = 152 ∨ (140 ≤ a ∧ a ≤ 147) ∨ a = 97
abbrev Y2 (a : Nat) : Prop := (1 ≤ a ∧ a ≤ 80) ∨ (117 ≤ a ∧ a ≤ 123) ∨ a = 154 ∨ a = 205
abbrev Y3 (q k : Nat) : Prop := (1 ≤ q ∧ q ≤ 80) ∨ (117 ≤ q ∧ q ≤ 123) ∨ (q = 0 ∧ (k = 18 ∨ k = 14)) ∨ (q = 81 ∧ k = 11)
abbrev Y4 (q _k : Nat) : Prop := (1 ≤ q ∧ q ≤ 81) ∨ (117 ≤ q ∧ q ≤ 123)
section TKR
variable {S : tq_H} {c c' c1 c2 d d1 e : tc_C} {di : DI} {D E : Doc} {m M : Nat} {U U' : Ups} {P : Pat} {H : Nat → Bool} {Z : Sma} {X : Nat → Bool} {nw : Nat} {ed : Option Nat} {nv : Nat} {vt mv : Nat → Nat} {Dv : Nat → Doc} {p q r k b i n z : Nat} {x1 y4 : Int32} {xs : Nat → Int32} {h0 : tq_H}
theorem RMem.wr {w1 w2 : Nat → Prop} {w3 w4 : Nat → Nat → Prop} (h : RMem c D) (k : Wr w1 w2 w3 w4 c c') (d1 : ∀ a, 168 ≤ a → a ≤ 173 → ¬ w1 a) : RMem c' D := h.cg fun a h1 h2 => k.1 a (d1 a h1 h2)
/-- what the reference reads, where the class has worked -/
theorem Cor.refs (h : Cor S c di D m U P H Z X nw ed nv vt mv Dv) (w : Wr Y1 Y2 Y3 Y4 c e) : RTree e D m ∧ ROrd e D ∧ PR e P ∧ SR e Z ∧ UR e U ∧ e.2.2.1 155 42 = c.2.2.1 155 42 ∧ e.2.2.1 155 45 = nI nw ∧ e.2.2.1 155 49 = nI nv ∧ (∀ k, k < nv → KV e k (Dv k) ∧ ∀ j, j < (Dv k).n → e.1 156 ((Dv k).ord j) = (Dv k).kd j) ∧ e.1 191 = c.1 191 ∧ e.2.1 193 = c.2.1 193 ∧ RHid e H P.n := by
  obtain ⟨k1, k2, k3, k4, k5⟩ := w
  obtain ⟨-, g1, g2, g3, g4, g5, g6, g7, g8, g9, g10⟩ := h
  refine ⟨?_, ?_, ?_, ?_, ?_, k3 _ _ (by omega), by rw [k3 _ _ (by omega)]; exact g8.2.1, by rw [k3 _ _ (by omega)]; exact g9.2.1, fun k hk => ⟨(g9.2.2.2.2 k hk).2.2.2.2.2.1.pt (fun a _ _ => k1 a (by omega)), fun j hj => by rw [k1 156 (by omega)]; exact (g9.2.2.2.2 k hk).2.2.2.2.2.2.2 j hj⟩, k1 191 (by omega), k2 193 (by omega), ?_⟩
  · have := g1.2.2.2.1
    unfold RTree at this ⊢
    rw [k3 155 1 (by omega), k1 163 (by omega), k1 156 (by omega), k1 157 (by omega), k1 158 (by omega), k1 159 (by omega), k1 160 (by omega), k1 161 (by omega)]
    exact this
  · have := g1.2.2.2.2
    unfold ROrd at this ⊢
    rw [k3 155 11 (by omega), k1 164 (by omega), k1 165 (by omega)]
    exact this
  · have := g4.2.1
    unfold PR at this ⊢
    rw [k3 155 24 (by omega), k1 175 (by omega), k1 176 (by omega), k1 177 (by omega), k1 178 (by omega)]
    exact this
  · have := g6.2.1
    unfold SR at this ⊢
    rw [k1 183 (by omega), k1 186 (by omega), k1 185 (by omega), k1 187 (by omega), k1 184 (by omega)]
    exact this
  · have := g3.2.1
    unfold UR at this ⊢
    rw [k3 155 15 (by omega), k1 167 (by omega)]
    exact this
  · have := g5.2.2.1
    unfold RHid at this ⊢
    rw [k3 155 33 (by omega), k1 181 (by omega)]
    exact this
theorem RTree.wr {w1 w2 : Nat → Prop} {w3 w4 : Nat → Nat → Prop} (h : RTree c D m) (k : Wr w1 w2 w3 w4 c c') (d1 : ∀ a, 156 ≤ a ∧ a ≤ 163 ∧ a ≠ 162 → ¬ w1 a) (d3 : ¬ w3 155 1) : RTree c' D m := by
  obtain ⟨k1, k2, k3, k4, k5⟩ := k
  unfold RTree at h ⊢
  rw [k3 155 1 d3, k1 163 (d1 _ (by omega)), k1 156 (d1 _ (by omega)), k1 157 (d1 _ (by omega)), k1 158 (d1 _ (by omega)), k1 159 (d1 _ (by omega)), k1 160 (d1 _ (by omega)), k1 161 (d1 _ (by omega))]
  exact h
theorem ROrd.wr {w1 w2 : Nat → Prop} {w3 w4 : Nat → Nat → Prop} (h : ROrd c D) (k : Wr w1 w2 w3 w4 c c') (d1 : ∀ a, 164 ≤ a ∧ a ≤ 165 → ¬ w1 a) (d3 : ¬ w3 155 11) : ROrd c' D := by
  obtain ⟨k1, k2, k3, k4, k5⟩ := k
  unfold ROrd at h ⊢
  rw [k3 155 11 d3, k1 164 (d1 _ (by omega)), k1 165 (d1 _ (by omega))]
  exact h
theorem PR.wr {w1 w2 : Nat → Prop} {w3 w4 : Nat → Nat → Prop} (h : PR c P) (k : Wr w1 w2 w3 w4 c c') (d1 : ∀ a, 175 ≤ a ∧ a ≤ 178 → ¬ w1 a) (d3 : ¬ w3 155 24) : PR c' P := by
  obtain ⟨k1, k2, k3, k4, k5⟩ := k
  unfold PR at h ⊢
  rw [k3 155 24 d3, k1 175 (d1 _ (by omega)), k1 176 (d1 _ (by omega)), k1 177 (d1 _ (by omega)), k1 178 (d1 _ (by omega))]
  exact h
theorem SR.wr {w1 w2 : Nat → Prop} {w3 w4 : Nat → Nat → Prop} (h : SR c Z) (k : Wr w1 w2 w3 w4 c c') (d1 : ∀ a, 183 ≤ a ∧ a ≤ 187 → ¬ w1 a) : SR c' Z := by
  obtain ⟨k1, k2, k3, k4, k5⟩ := k
  unfold SR at h ⊢
  rw [k1 183 (d1 _ (by omega)), k1 186 (d1 _ (by omega)), k1 185 (d1 _ (by omega)), k1 187 (d1 _ (by omega)), k1 184 (d1 _ (by omega))]
  exact h
theorem KV.wr {w1 w2 : Nat → Prop} {w3 w4 : Nat → Nat → Prop} (h : KV c k D) (g : Wr w1 w2 w3 w4 c c') (d1 : ∀ a, 194 ≤ a ∧ a ≤ 199 → ¬ w1 a) : KV c' k D := h.pt fun a h1 h2 => g.1 a (d1 a ⟨h1, h2⟩)
theorem Cor.takeR (h : Cor S c di D m U P H Z X nw ed nv vt mv Dv) (hk : k < nv) (hU : U.n = 0) (w : Wr Y1 Y2 Y3 Y4 c e) (pv : Nat → Nat) (hpv : ∀ k, k < nw → pv k < P.n ∧ c.1 150 k = nI (pv k) ∧ c.1 191 k = nI (pv k) ∧ c.2.1 193 k = D.V P (pv k)) :
    (c.2.2.1 155 42 = 0 ∨ (Dv k).ty Z 0 0 = true → ∃ e', f_X11_take 155 (nI k) (tc_mk S e) = some (nI (Dv k).n, tc_mk S e') ∧ RTree e' (Dv k) m ∧ ROrd e' (Dv k) ∧ (∀ j, j < (Dv k).n → (Dv k).kd j ≠ 2 → e'.1 162 ((Dv k).ord j) = nI (16 * fb_ct (Dv k).sol (j + 1))) ∧
      (∀ j, j < nw → e'.1 192 j = nI (fb_ct (tb (D.V P (pv j) ^^^ (Dv k).V P (pv j))) 64) ∧ e'.2.1 193 j = (Dv k).V P (pv j)) ∧ e'.2.2.1 155 0 = 0 ∧ Wr X1 X2 X3 X4 e e') ∧
    (¬ (c.2.2.1 155 42 = 0 ∨ (Dv k).ty Z 0 0 = true) → ∃ e', f_X11_take 155 (nI k) (tc_mk S e) = some (0, tc_mk S e') ∧ RTree e' D m ∧ ROrd e' D ∧ e'.2.2.1 155 0 = 2 ∧ Wr Xb1 uc2 X3 u4 e e') := by
  obtain ⟨a1, a2, a3, a4, a5, a6, a7, a8, a9, a10, a11, a12⟩ := h.refs w
  obtain ⟨b1, b2⟩ := a9 k hk
  obtain ⟨v1, v2, v3, v4, v5⟩ := h.gk
  obtain ⟨-, ⟨w2, w2'⟩, -, w4, -, -, w7, -⟩ := v5 k hk
  have hw := h.gt.1.1
  have hm60 := h.gt.2.2.1.1
  have n10 : ¬ (1 : Int32) = 0 := by decide
  have z0 : tq_bz 0 = some 0 := rfl
  have z1 : tq_bz 1 = some 1 := rfl
  have is11 : ∀ c, tq_is (tc_mk S c) 155 11 = some () := fun c => by simp (maxSteps := 3000000) (disch := omega) only [Option.bind_some, tc_bs, tq_let, tc_I1, tc_I2, tc_J1, tc_J2, tc_J3, tc_F1, tc_F2, tc_F3, tc_F4, tc_G1, tc_G2, tc_G3, tc_G4, tc_G5, tc_us, tc_un, s_one, s_holds, s_J13_bitCount, bz_bI, h.mod.f]
  have isv : f_X11_isVersion 155 (nI k) (tc_mk S e) = some 1 := by
    obtain ⟨k', -, -, ek, -, hv⟩ := h.ver (x := nI k) ⟨nI_pos' (by omega), nI_lt hk (by omega)⟩
    exact hv e a8
  have e15 : e.2.2.1 155 15 = 0 := by rw [a5.1, hU]; rfl
  have q15 : (0 : Int32) ≤ 0 := Int32.le_refl _
  have k0 : Wr Xb1 uc2 X3 u4 e (tc_F e 155 0 0) := Wr.F _ (by omega)
  have rt0 : RTree (tc_F e 155 0 0) D m := a1.wr (Wr.F _ ⟨rfl, rfl⟩ : Wr uc2 uc2 x3w u4 e (tc_F e 155 0 0)) (fun _ _ z => z) (fun z => by omega)
  obtain ⟨e1, q1, q2, q3, q4⟩ := rp_start (S := S) (U := U) h.mod hw rt0
  obtain ⟨-, -, -, -, -, -, rmem⟩ := q2
  have k1 : Wr m1w uc2 l3w u4 (tc_F e 155 0 0) e1 := ⟨fun a ha => q3 a (by omega), fun a _ => by rw [q4], fun q k _ => by rw [q4], fun q k _ => by rw [q4], by rw [q4]⟩
  have k01 : Wr Xb1 uc2 X3 u4 e e1 := k0.trans (k1.mono (fun a z => by omega) (fun _ z => z) (fun _ _ z => z.elim) (fun _ _ z => z))
  have hm1 : e1.2.2.1 155 1 = nI m := by rw [k01.2.2.1 155 1 (by omega)]; exact a1.1
  have ez1 : e1.2.2.1 155 0 = 0 := by rw [q4]; rfl
  obtain ⟨e2, t1, t2, t3, t4⟩ := s_X11_load (S := S) h.mod w2 w2' (by omega) (b1.wr k01 (fun a _ => by omega)) hm1 ⟨hm60, fun i hi => Nat.lt_of_lt_of_le (w4.2.1 i hi) w7⟩ (fun i hi => by rw [k01.1 156 (by omega)]; exact b2 i hi)
  have k02 : Wr Xb1 uc2 X3 u4 e e2 := k01.trans (t4.mono (fun a z => by omega) (fun _ z => z) (fun q k z => by omega) (fun _ _ z => z))
  have ez2 : e2.2.2.1 155 0 = 0 := by rw [t4.2.2.1 155 0 (by omega)]; exact ez1
  have e42 : e2.2.2.1 155 42 = c.2.2.1 155 42 := by rw [k02.2.2.1 155 42 (by omega)]; exact a6
  have rmem2 : RMem e2 D := rmem.wr t4 (fun a _ _ => by omega)
  have sr2 := a4.wr k02 (fun a _ => by omega)
  -- what comes behind the schema's word
  have tail : ∀ e3, Wr Xb1 uc2 X3 u4 e e3 → RTree e3 (Dv k) m → ROrd e3 (Dv k) → e3.2.2.1 155 0 = 0 → ∃ e', f_X11_numberAll 155 (tc_mk S e3) = some (tc_mk S (tc_I e3 162 ((Dv k).numF (e3.1 162) (Dv k).n))) ∧ f_X11_lookAtViews 155 (tc_mk S (tc_I e3 162 ((Dv k).numF (e3.1 162) (Dv k).n))) = some (tc_mk S e') ∧
      RTree e' (Dv k) m ∧ ROrd e' (Dv k) ∧ (∀ j, j < (Dv k).n → (Dv k).kd j ≠ 2 → e'.1 162 ((Dv k).ord j) = nI (16 * fb_ct (Dv k).sol (j + 1))) ∧ (∀ j, j < nw → e'.1 192 j = nI (fb_ct (tb (D.V P (pv j) ^^^ (Dv k).V P (pv j))) 64) ∧ e'.2.1 193 j = (Dv k).V P (pv j)) ∧ e'.2.2.1 155 0 = 0 ∧ e'.2.2.1 155 11 = nI (Dv k).n ∧ Wr X1 X2 X3 X4 e e' := by
    intro e3 kk rt ro ez
    have f1 := s_numberAll_R (S := S) h.mod w2 rt ro
    obtain ⟨e4, ee4⟩ : ∃ e4, e4 = tc_I e3 162 ((Dv k).numF (e3.1 162) (Dv k).n) := ⟨_, rfl⟩
    rw [← ee4] at f1
    have kI : Wr (fun a => a = 162) uc2 l3w u4 e3 e4 := by rw [ee4]; exact Wr.I _ rfl
    have rt4 := rt.wr kI (fun a ha z => ha.2.2 z) (fun z => z)
    have ro4 := ro.wr kI (fun a ha z => by omega) (fun z => z)
    have k04 : Wr X1 uc2 X3 u4 e e4 := (kk.mono (fun a z => by omega) (fun _ z => z) (fun _ _ z => z) (fun _ _ z => z)).trans (kI.mono (fun a z => by omega) (fun _ z => z) (fun _ _ z => z.elim) (fun _ _ z => z))
    have e193 : ∀ j, j < nw → e4.2.1 193 j = D.V P (pv j) := fun j hj => by
      rw [k04.2.1 193 (fun z => z), a11]; exact (hpv j hj).2.2.2
    obtain ⟨e5, g1, g2, g3⟩ := s_lookAtViews (S := S) (nw := nw) h.mod w2 rt4 ro4 (a3.wr k04 (fun a _ => by omega) (by omega)) h.gp.2.2 (by rw [k04.2.2.1 155 45 (by omega)]; exact a7) h.gv.2.2.1 pv (fun j hj => ⟨(hpv j hj).1, by rw [k04.1 191 (by omega), a10]; exact (hpv j hj).2.2.1⟩) e193
    have kk5 : Wr X1 X2 X3 X4 e4 e5 := g3.mono (fun a z => by omega) (fun a z => by omega) (fun _ _ z => z.elim) (fun _ _ z => z)
    have rt5 := rt4.wr g3 (fun a _ => by omega) (fun z => z)
    have ro5 := ro4.wr g3 (fun a _ => by omega) (fun z => z)
    exact ⟨e5, by rw [ee4] at f1; exact f1, by rw [← ee4]; exact g1, rt5, ro5, fun j hj hk2 => by rw [g3.1 162 (by omega), ee4, tc_I1, tc_us, (Dv k).numF_at w2 _ hj _ (Nat.le_refl _), if_pos ⟨hj, hk2⟩], g2, by rw [g3.2.2.1 155 0 (fun z => z), ee4]; exact ez, ro5.1, (k04.mono (fun a z => z) (fun _ z => z.elim) (fun _ _ z => z) (fun _ _ z => z.elim)).trans kk5⟩
  obtain ⟨f, r1⟩ := s_X11_isRight (S := S) h.mod w2 t2 t3 w2' sr2
  have k23 : Wr (fun a => a = 188) uc2 l3w u4 e2 (tc_I e2 188 f) := Wr.I _ rfl
  have k03 : Wr Xb1 uc2 X3 u4 e (tc_I e2 188 f) := k02.trans (k23.mono (fun a z => by omega) (fun _ z => z) (fun _ _ z => z.elim) (fun _ _ z => z))
  constructor
  · intro hs
    by_cases q42 : c.2.2.1 155 42 = 0
    · obtain ⟨e', f1, f2, f3, f4, f5, f6, f7, f8, f9⟩ := tail e2 k02 t2 t3 ez2
      have e42 : e2.2.2.1 155 42 = 0 := by rw [e42]; exact q42
      exact ⟨e', by simp (maxSteps := 3000000) (disch := omega) only [Option.bind_some, tc_bs, tq_let, tc_I1, tc_I2, tc_J1, tc_J2, tc_J3, tc_F1, tc_F2, tc_F3, tc_F4, tc_G1, tc_G2, tc_G3, tc_G4, tc_G5, tc_us, tc_un, s_one, s_holds, s_J13_bitCount, bz_bI, f_X11_take, is11, isv, h.mod.f, e15, q15, f_X11_refused, n10, z0, q1, t1, e42, f1, f2, f8, if_true, if_false], f3, f4, f5, f6, f7, f9⟩
    · have hty : (Dv k).ty Z 0 0 = true := hs.resolve_left q42
      rw [hty] at r1
      have b1' : ¬ bI true = 0 := by decide
      obtain ⟨e', f1, f2, f3, f4, f5, f6, f7, f8, f9⟩ := tail (tc_I e2 188 f) k03 (t2.wr k23 (fun a ha z => by omega) (fun z => z)) (t3.wr k23 (fun a ha z => by omega) (fun z => z)) ez2
      have e42 : ¬ e2.2.2.1 155 42 = 0 := by rw [e42]; exact q42
      refine ⟨e', ?_, f3, f4, f5, f6, f7, f9⟩
      simp (maxSteps := 3000000) (disch := omega) only [Option.bind_some, tc_bs, tq_let, tc_I1, tc_I2, tc_J1, tc_J2, tc_J3, tc_F1, tc_F2, tc_F3, tc_F4, tc_G1, tc_G2, tc_G3, tc_G4, tc_G5, tc_us, tc_un, s_one, s_holds, s_J13_bitCount, bz_bI, f_X11_take, is11, isv, h.mod.f, e15, q15, f_X11_refused, n10, z0, q1, t1, e42, r1, b1', if_true, if_false]
      rw [f1, Option.bind_some, f2, Option.bind_some]
      simp (maxSteps := 3000000) (disch := omega) only [Option.bind_some, tc_bs, tq_let, tc_I1, tc_I2, tc_J1, tc_J2, tc_J3, tc_F1, tc_F2, tc_F3, tc_F4, tc_G1, tc_G2, tc_G3, tc_G4, tc_G5, tc_us, tc_un, s_one, s_holds, s_J13_bitCount, bz_bI, h.mod.f, f8]
  · intro hs
    have q42 : ¬ c.2.2.1 155 42 = 0 := fun z => hs (.inl z)
    have hty : (Dv k).ty Z 0 0 = false := by
      cases hh : (Dv k).ty Z 0 0 with
      | false => rfl
      | true => exact absurd (.inr hh) hs
    rw [hty] at r1
    have b0 : bI false = 0 := rfl
    have e42 : ¬ e2.2.2.1 155 42 = 0 := by rw [e42]; exact q42
    have hm3 : (tc_I e2 188 f).2.2.1 155 1 = nI m := t2.1
    obtain ⟨e4, g1, g2, g3⟩ := RMem.back (S := S) h.mod hw ⟨hm60, h.gt.2.2.1.2.1⟩ hm3 (fun i hi => by
      rw [k03.1 156 (by omega)]; exact a1.2.2.2.2.1 i hi) (rmem2.wr k23 (fun a h1 h2 z => by omega))
    obtain ⟨e5, u1, u2, u3⟩ := s_X11_arrange (S := S) h.mod hw h.gt.1.2 (fun x hx => RTree.ans h.mod hw (g2.af hx) h.gt.1.2)
    have k34 : Wr Xb1 uc2 X3 u4 (tc_I e2 188 f) e4 := ⟨fun a ha => g3.1 a (by omega), fun a _ => by rw [g3.2], fun q k _ => by rw [g3.2], fun q k _ => by rw [g3.2], by rw [g3.2]⟩
    obtain ⟨x1, x2, x3, x4, x5, x6⟩ := u3
    have k45 : Wr Xb1 uc2 X3 u4 e4 e5 := ⟨fun a ha => x1 a (by omega), fun a _ => by rw [x2], fun q k hq => by
      by_cases z : q = 155
      · subst z; exact x4 k (by omega)
      · rw [x3 q z], fun q k _ => by rw [x5], x6⟩
    have k05 : Wr Xb1 uc2 X3 u4 e e5 := (k03.trans k34).trans k45
    have kF : Wr uc2 uc2 x3w u4 e5 (tc_F e5 155 0 2) := Wr.F _ ⟨rfl, rfl⟩
    have n20 : ¬ (2 : Int32) = 0 := by decide
    refine ⟨tc_F e5 155 0 2, ?_, (g2.af ⟨x1, x2, x3, x4, x5, x6⟩).wr kF (fun _ _ z => z) (fun z => by omega), u2.wr kF (fun _ _ z => z) (fun z => by omega), rfl, k05.trans (kF.mono (fun _ z => z.elim) (fun _ z => z) (fun q k z => by omega) (fun _ _ z => z))⟩
    simp (maxSteps := 3000000) (disch := omega) only [Option.bind_some, tc_bs, tq_let, tc_I1, tc_I2, tc_J1, tc_J2, tc_J3, tc_F1, tc_F2, tc_F3, tc_F4, tc_G1, tc_G2, tc_G3, tc_G4, tc_G5, tc_us, tc_un, s_one, s_holds, s_J13_bitCount, bz_bI, f_X11_take, is11, isv, h.mod.f, e15, q15, f_X11_refused, n10, z0, q1, t1, e42, r1, b0, g1, u1, n20, z1, if_true, if_false]
/-- it can be done, and then it is done -/
def TK (c : tc_C) (U : Ups) (Z : Sma) (nv : Nat) (Dv : Nat → Doc) (x : Int32) (h : tq_H) : Prop :=
  ∀ k, k < nv → x = nI k → U.n = 0 → (c.2.2.1 155 42 = 0 ∨ (Dv k).ty Z 0 0 = true) → f_X11_thrown 155 h = some 0 ∧ tq_gi h 155 11 11 = some (nI (Dv k).n) ∧ tq_aj h 205 0 = some (nI (Dv k).n).toInt64
theorem armI_tk {L : Option (Int32 × tq_H)} {R : tq_H → Option (Int32 × tq_H)} {z : Nat} {a : Int32} (hm : tc_Mod S z) (hq : tc_Tq S ed) (h1 : L = some (0, tc_mk S (ansC c1 a.toInt64))) (h2 : R (tc_mk S (ansC c1 a.toInt64)) = some (a, tc_mk S c2)) (h3 : InvE di (tc_mk S c2)) (h4 : c2.2.2.1 155 0 = 0) (h5 : c2.2.1 205 = (ansC c1 a.toInt64).2.1 205) (h6 : c2.2.2.1 155 11 = a) :
    ∃ h', armI L R y4 = some (.inl (y4 + 5, h')) ∧ InvE di h' ∧ (f_X11_thrown 155 h' = some 0 ∧ tq_gi h' 155 11 11 = some a ∧ tq_aj h' 205 0 = some a.toInt64) :=
  ⟨_, armI_ok hm hm hq h1 h2 h4 (fun _ => by rw [h5, ans_at]), h3, thr_at hm h4, by rw [tc_gi (S := S) (c := c2) hm.1 rfl, h6], aj_at hq (by rw [h5, ans_at])⟩
theorem tk_of {A : tq_H → Prop} {B : tq_H → Prop} (hk : k < nv) (h6 : nv < 2 ^ 31) (h : ∃ h', A h' ∧ B h' ∧ (f_X11_thrown 155 h' = some 0 ∧ tq_gi h' 155 11 11 = some (nI (Dv k).n) ∧ tq_aj h' 205 0 = some (nI (Dv k).n).toInt64)) : ∃ h', A h' ∧ B h' ∧ TK c U Z nv Dv (nI k) h' := by
  obtain ⟨h', a, b, e⟩ := h
  refine ⟨h', a, b, fun k' hk' x _ _ => ?_⟩
  have := (nI_eq (by omega) (by omega)).mp x
  subst this
  exact e
theorem tk_no {A : tq_H → Prop} {B : tq_H → Prop} (hn : ∀ k, k < nv → x1 = nI k → U.n = 0 → ¬ (c.2.2.1 155 42 = 0 ∨ (Dv k).ty Z 0 0 = true)) (h : ∃ h', A h' ∧ B h') : ∃ h', A h' ∧ B h' ∧ TK c U Z nv Dv x1 h' := by
  obtain ⟨h', a, b⟩ := h
  exact ⟨h', a, b, fun k hk e hu hz => absurd hz (hn k hk e hu)⟩
theorem Cor.takeA (hC : Cor S c di D m U P H Z X nw ed nv vt mv Dv) (hF : GF c D P H) : ∃ h', armI (f_V_take 0 x1 205 (tc_mk S c)) (f_X11_take 155 x1) y4 = some (.inl (y4 + 5, h')) ∧ InvE di h' ∧ TK c U Z nv Dv x1 h' := by
  have n10 : ¬ (1 : Int32) = 0 := by decide
  have n20 : ¬ (2 : Int32) = 0 := by decide
  have z0 : tq_bz 0 = some 0 := rfl
  have z1 : tq_bz 1 = some 1 := rfl
  have b0 : bI false = 0 := rfl
  have b1 : ¬ bI true = 0 := by decide
  have i6 : ∀ c, tq_is (tc_mk S c) 131 6 = some () := hC.sch.is
  have i81 : ∀ c, tq_is (tc_mk S c) 81 9 = some () := fun c => by simp (maxSteps := 3000000) (disch := omega) only [Option.bind_some, tc_bs, tq_let, tc_I1, tc_I2, tc_J1, tc_J2, tc_J3, tc_F1, tc_F2, tc_F3, tc_F4, tc_G1, tc_G2, tc_G3, tc_G4, tc_G5, tc_us, tc_un, s_one, s_holds, s_J13_bitCount, bz_bI, hC.upc.f]
  have i41 : ∀ c, tq_is (tc_mk S c) 41 8 = some () := fun c => by have := hC.1.2.1.2; simp (maxSteps := 3000000) (disch := omega) only [Option.bind_some, tc_bs, tq_let, tc_I1, tc_I2, tc_J1, tc_J2, tc_J3, tc_F1, tc_F2, tc_F3, tc_F4, tc_G1, tc_G2, tc_G3, tc_G4, tc_G5, tc_us, tc_un, s_one, s_holds, s_J13_bitCount, bz_bI, this.f]
  have is11 : ∀ c, tq_is (tc_mk S c) 155 11 = some () := fun c => by simp (maxSteps := 3000000) (disch := omega) only [Option.bind_some, tc_bs, tq_let, tc_I1, tc_I2, tc_J1, tc_J2, tc_J3, tc_F1, tc_F2, tc_F3, tc_F4, tc_G1, tc_G2, tc_G3, tc_G4, tc_G5, tc_us, tc_un, s_one, s_holds, s_J13_bitCount, bz_bI, hC.mod.f]
  obtain ⟨v1, v2, v3, v4, v5⟩ := hC.gk
  have hn20 := hC.gu.1.2.1
  by_cases q1 : 0 ≤ x1 ∧ x1 < nI nv
  · obtain ⟨k, hk, hk6, rfl, l1, r1⟩ := hC.ver q1
    by_cases hU : U.n = 0
    · have q0 : nI U.n ≤ 0 := by rw [hU]; exact Int32.le_refl _
      have l2 : f_X9_count 81 (tc_mk S c) = some (nI U.n) := by simp (maxSteps := 3000000) (disch := omega) only [Option.bind_some, tc_bs, tq_let, tc_I1, tc_I2, tc_J1, tc_J2, tc_J3, tc_F1, tc_F2, tc_F3, tc_F4, tc_G1, tc_G2, tc_G3, tc_G4, tc_G5, tc_us, tc_un, s_one, s_holds, s_J13_bitCount, bz_bI, f_X9_count, hC.upc.f, hC.gu.1.1]
      obtain ⟨pv, hpv⟩ := hC.pv
      -- both sides, once the schema is done
      have good : ∀ c0, Cor S c0 di D m U P H Z X nw ed nv vt mv Dv → GF c0 D P H → (∀ k, k < nw → pv k < P.n ∧ c0.1 150 k = nI (pv k) ∧ c0.1 191 k = nI (pv k) ∧ c0.2.1 193 k = D.V P (pv k)) → (c0.2.2.1 155 42 = 0 ∨ (Dv k).ty Z 0 0 = true) →
          (∀ c1 c2 c3 c4, f_X8_copy 41 (vt k) (tc_mk S c0) = some (tc_mk S c1) → f_X8_madeCount 1 (tc_mk S c1) = some (nI m) → f_X8_keepMade 41 (nI m) (tc_mk S c1) = some (tc_mk S c2) → f_X8_numberAnew 41 (tc_mk S c2) = some (tc_mk S c3) → f_X10_settle 0 (tc_mk S c3) = some (tc_mk S c4) → f_X3_count 2 (tc_mk S c4) = some (nI (Dv k).n) → f_X10_take 0 (nI k) (tc_mk S c) = some (.inr (nI (Dv k).n), tc_mk S c4)) →
          ∃ h', armI (f_V_take 0 (nI k) 205 (tc_mk S c)) (f_X11_take 155 (nI k)) y4 = some (.inl (y4 + 5, h')) ∧ InvE di h' ∧ (f_X11_thrown 155 h' = some 0 ∧ tq_gi h' 155 11 11 = some (nI (Dv k).n) ∧ tq_aj h' 205 0 = some (nI (Dv k).n).toInt64) := by
        intro c0 hC0 hF0 hpv0 hs hL
        obtain ⟨c1, c2, c3, c4, a1, a2, a3, a4, a5, a6, a7, a8, a9, a10, a11, a12, a13, a14⟩ := hC0.takeC hF0 hk pv (fun k hk => ⟨(hpv0 k hk).1, (hpv0 k hk).2.1⟩)
        have e5 := hL c1 c2 c3 c4 a1 a2 a3 a4 a5 a6
        have kw : Wr Y1 Y2 Y3 Y4 c0 (ansC c4 (nI (Dv k).n).toInt64) := (a14.mono (fun a z => by omega) (fun a z => by omega) (fun q k z => by omega) (fun q k z => by omega)).trans (Wr.A _ (by omega))
        obtain ⟨w, w1, w2, w3, w4, w5, w6, w7⟩ := (hC0.takeR hk hU kw pv hpv0).1 hs
        have kB : Wr B1 B2 B3 B4 c0 w := (kw.mono (fun a z => by omega) (fun a z => by omega) (fun q k z => by omega) (fun q k z => by omega)).trans (w7.mono (fun a z => by omega) (fun a z => by omega) (fun q k z => by omega) (fun q k z => by omega))
        obtain ⟨y1, y2, y3, y4', y5⟩ := w7
        have y2' : ∀ a, a ≠ 205 → ¬ X2 a → w.2.1 a = c4.2.1 a := fun a h1 h2 => by rw [y2 a h2]; unfold ansC; rw [tc_J2, tc_un _ _ h1]
        have hG := (hC0.gk.2.2.2.2 k hk)
        refine armI_tk hC.mod hC.tq (a := nI (Dv k).n) (c1 := c4) (c2 := w) (by simp (maxSteps := 3000000) (disch := omega) only [Option.bind_some, tc_bs, tq_let, tc_I1, tc_I2, tc_J1, tc_J2, tc_J3, tc_F1, tc_F2, tc_F3, tc_F4, tc_G1, tc_G2, tc_G3, tc_G4, tc_G5, tc_us, tc_un, s_one, s_holds, s_J13_bitCount, bz_bI, f_V_take, hC.tq.f, e5]; rfl) w1 ?_ w6 (y2 205 (by omega)) w3.1
        refine InvE.un hC0.un (hC0.tree (U' := U) kB ⟨hG.2.1, a7.pt (fun a _ _ => y1 a (by omega)) (fun a _ _ => y2' a (by omega) (by omega)) (y3 _ _ (by omega)) (y4' _ _ (by omega)) (y4' _ _ (by omega)), a8.pt (fun a _ _ => y1 a (by omega)) (y3 _ _ (by omega)), w2, w3⟩ ⟨fun j hj hj2 => ?_, fun j hj hj2 => ?_, ?_⟩ ?_ (Nat.le_refl _) (fun v _ => by rw [y1 156 (by omega)]; exact congrFun (a14.1 156 (by omega)) v) pv (fun k hk => ⟨(hpv0 k hk).1, (hpv0 k hk).2.1, (hpv0 k hk).2.2.1⟩) (fun j hj => (w5 j hj).2) (fun j hj => ?_) ?_ ?_ (kq := di.2.1) ?_)
        · rw [w4 j hj hj2, y1 34 (by omega)]; exact a9 j hj hj2
        · rw [y1 34 (by omega)]; exact a10 j hj hj2
        · rw [y3 0 14 (by omega), y3 155 10 (by omega)]
          show c4.2.2.1 0 14 = c4.2.2.1 155 10
          rw [a14.2.2.1 0 14 (by omega), a14.2.2.1 155 10 (by omega)]
          exact hC0.2.2.1.2.2
        · obtain ⟨u1, u2, u3⟩ := hC0.gu
          have hUC : UC w 81 U := by
            unfold UC at u1 ⊢
            rw [y3 81 11 (by omega), show (ansC c4 (nI (Dv k).n).toInt64).2.2.1 81 11 = c4.2.2.1 81 11 from rfl, a14.2.2.1 81 11 (by omega), kB.1 (81 + 2) (by omega), kB.1 (81 + 4) (by omega), kB.1 (81 + 6) (by omega), kB.1 (81 + 8) (by omega), kB.1 (81 + 10) (by omega), kB.1 (81 + 12) (by omega), kB.1 (81 + 14) (by omega)]
            exact u1
          have hUR : UR w U := by
            unfold UR at u2 ⊢
            rw [y3 155 15 (by omega), kB.1 167 (by omega)]
            rw [show (ansC c4 (nI (Dv k).n).toInt64).2.2.1 155 15 = c4.2.2.1 155 15 from rfl, a14.2.2.1 155 15 (by omega)]
            exact u2
          refine ⟨hUC, hUR, ⟨hn20, hC.gt.2.2.1.1, fun i hi => Nat.lt_of_lt_of_le (hG.2.2.2.1.2.1 i hi) hG.2.2.2.2.2.2.1⟩, ?_, ?_, ?_, ?_, ?_, ?_, ?_⟩ <;> intro j hj <;> omega
        · rw [(w5 j hj).1, y1 152 (by omega)]; exact a13 j hj
        · obtain ⟨r, r1, f⟩ := a11
          obtain ⟨⟨f1, f2, f3, f4⟩, f5, f6⟩ := f
          exact ⟨r, r1, ⟨f1.pt (fun x _ _ => y1 x (by omega)) (fun x _ _ => y2' x (by omega) (by omega)) (y3 _ _ (by omega)) (y4' _ _ (by omega)) (y4' _ _ (by omega)), f2.w1 (fun x _ _ => y1 x (by omega)) (y3 _ _ (by omega)), by rw [y4' _ _ (by omega)]; exact f3, fun i hi => by rw [y1 _ (by omega)]; exact f4 i hi⟩, by rw [y3 _ _ (by omega)]; exact f5, fun p i hp hi => by rw [y2' _ (by omega) (by omega)]; exact f6 p i hp hi⟩
        · rw [y3 0 18 (by omega)]; exact a12
        · refine ⟨fun z => ?_, Rise.anew hG.2.1.1 fun j hj kj => ?_⟩
          · rw [kB.2.2.1 131 10 (by omega)] at z
            rcases hs with hs | hs
            · obtain ⟨-, -, st, s1, s2⟩ := hC0.gs
              rw [s1] at z
              rw [s2, z] at hs
              exact absurd hs (by decide)
            · exact hs
          · rw [y1 34 (by omega)]; exact a9 j hj kj
      rcases hC.loose with ⟨s1, s2, s3⟩ | ⟨s1, s2, s3⟩
      · have l3 : f_X6_isStrict 131 (tc_mk S c) = some 0 := by simp (maxSteps := 3000000) (disch := omega) only [Option.bind_some, tc_bs, tq_let, tc_I1, tc_I2, tc_J1, tc_J2, tc_J3, tc_F1, tc_F2, tc_F3, tc_F4, tc_G1, tc_G2, tc_G3, tc_G4, tc_G5, tc_us, tc_un, s_one, s_holds, s_J13_bitCount, bz_bI, f_X6_isStrict, hC.sch.f, s1, z0]
        refine tk_of hk (by omega) (good c hC hF hpv (.inl s2) fun c1 c2 c3 c4 a1 a2 a3 a4 a5 a6 => ?_)
        simp (maxSteps := 3000000) (disch := omega) only [Option.bind_some, tc_bs, tq_let, tc_I1, tc_I2, tc_J1, tc_J2, tc_J3, tc_F1, tc_F2, tc_F3, tc_F4, tc_G1, tc_G2, tc_G3, tc_G4, tc_G5, tc_us, tc_un, s_one, s_holds, s_J13_bitCount, bz_bI, f_X10_take, hC.tq.f, l1, tb_r, i81, l2, q0, i6, l3, i41, a1, hC.t1.f, a2, a3, a4, a5, hC.t1.is, a6, if_true]
      · have l3 : f_X6_isStrict 131 (tc_mk S c) = some 1 := by simp (maxSteps := 3000000) (disch := omega) only [Option.bind_some, tc_bs, tq_let, tc_I1, tc_I2, tc_J1, tc_J2, tc_J3, tc_F1, tc_F2, tc_F3, tc_F4, tc_G1, tc_G2, tc_G3, tc_G4, tc_G5, tc_us, tc_un, s_one, s_holds, s_J13_bitCount, bz_bI, f_X6_isStrict, hC.sch.f, s1, z1]
        obtain ⟨g1, ⟨g2, g2'⟩, g3, g4, g5, g6, g7, g8⟩ := v5 k hk
        have hv := hC.1.2.2.2.2.2.2.2.2.1 k hk
        obtain ⟨f, l4⟩ := s_admits (S := S) (Z := Z) hC.sch hv.1 (.inr (by omega)) g2 g3 g4 hC.gs.1
        obtain ⟨hC1, hF1⟩ := hC.i141 hF f
        cases hty : (Dv k).ty Z 0 0 with
        | true =>
          rw [hty] at l4
          refine tk_of hk (by omega) (good (tc_I c 141 f) hC1 hF1 hpv (.inr hty) fun c1 c2 c3 c4 a1 a2 a3 a4 a5 a6 => ?_)
          simp (maxSteps := 3000000) (disch := omega) only [Option.bind_some, tc_bs, tq_let, tc_I1, tc_I2, tc_J1, tc_J2, tc_J3, tc_F1, tc_F2, tc_F3, tc_F4, tc_G1, tc_G2, tc_G3, tc_G4, tc_G5, tc_us, tc_un, s_one, s_holds, s_J13_bitCount, bz_bI, f_X10_take, hC.tq.f, l1, tb_r, i81, l2, q0, i6, l3, n10, l4, b1, i41, a1, hC.t1.f, a2, a3, a4, a5, hC.t1.is, a6, if_true, if_false]
        | false =>
          rw [hty] at l4
          have e5 : f_X10_take 0 (nI k) (tc_mk S c) = some (.inl "java/lang/IllegalStateException", tc_mk S (tc_I c 141 f)) := by
            simp (maxSteps := 3000000) (disch := omega) only [Option.bind_some, tc_bs, tq_let, tc_I1, tc_I2, tc_J1, tc_J2, tc_J3, tc_F1, tc_F2, tc_F3, tc_F4, tc_G1, tc_G2, tc_G3, tc_G4, tc_G5, tc_us, tc_un, s_one, s_holds, s_J13_bitCount, bz_bI, f_X10_take, hC.tq.f, l1, tb_r, i81, l2, q0, i6, l3, n10, l4, b0, if_true, if_false]
          have kw : Wr Y1 Y2 Y3 Y4 (tc_I c 141 f) (tc_I c 141 f) := Wr.refl _
          obtain ⟨w, w1, w2, w3, w4, w5⟩ := (hC1.takeR hk hU kw pv hpv).2 (by
            rintro (z | z)
            · have : c.2.2.1 155 42 = 0 := z
              rw [s2] at this; exact n10 this
            · rw [hty] at z; exact absurd z (by decide))
          refine tk_no (fun k' hk' e hu hz => ?_) (armI_any hC.mod hC.tq (.inr ⟨2, 0, tc_I c 141 f, w, by decide, by simp (maxSteps := 3000000) (disch := omega) only [Option.bind_some, tc_bs, tq_let, tc_I1, tc_I2, tc_J1, tc_J2, tc_J3, tc_F1, tc_F2, tc_F3, tc_F4, tc_G1, tc_G2, tc_G3, tc_G4, tc_G5, tc_us, tc_un, s_one, s_holds, s_J13_bitCount, bz_bI, f_V_take, hC.tq.f, e5, nSI, if_true, if_false], w1, ?_, w4⟩))
          · have := (nI_eq (by omega) (by omega)).mp e
            subst this
            rcases hz with hz | hz
            · rw [s2] at hz; exact absurd hz (by decide)
            · rw [hty] at hz; cases hz
          · exact hC1.back hF1 (w5.mono (fun a z => by omega) (fun _ z => z.elim) (fun q k z => by omega) (fun _ _ z => z.elim)) w2 w3 (fun v _ => congrFun (w5.1 156 (by omega)) v)
    · have q0 : ¬ nI U.n ≤ 0 := nI_nle (by omega) (by omega)
      have l2 : f_X9_count 81 (tc_mk S c) = some (nI U.n) := by simp (maxSteps := 3000000) (disch := omega) only [Option.bind_some, tc_bs, tq_let, tc_I1, tc_I2, tc_J1, tc_J2, tc_J3, tc_F1, tc_F2, tc_F3, tc_F4, tc_G1, tc_G2, tc_G3, tc_G4, tc_G5, tc_us, tc_un, s_one, s_holds, s_J13_bitCount, bz_bI, f_X9_count, hC.upc.f, hC.gu.1.1]
      have e5 : f_X10_take 0 (nI k) (tc_mk S c) = some (.inl "java/lang/IllegalStateException", tc_mk S c) := by
        simp (maxSteps := 3000000) (disch := omega) only [Option.bind_some, tc_bs, tq_let, tc_I1, tc_I2, tc_J1, tc_J2, tc_J3, tc_F1, tc_F2, tc_F3, tc_F4, tc_G1, tc_G2, tc_G3, tc_G4, tc_G5, tc_us, tc_un, s_one, s_holds, s_J13_bitCount, bz_bI, f_X10_take, hC.tq.f, l1, tb_r, i81, l2, q0, if_false]
      refine tk_no (fun _ _ _ hu _ => absurd hu hU) (arm_read hC hF (.inr ⟨2, 0, by decide, by simp (maxSteps := 3000000) (disch := omega) only [Option.bind_some, tc_bs, tq_let, tc_I1, tc_I2, tc_J1, tc_J2, tc_J3, tc_F1, tc_F2, tc_F3, tc_F4, tc_G1, tc_G2, tc_G3, tc_G4, tc_G5, tc_us, tc_un, s_one, s_holds, s_J13_bitCount, bz_bI, f_V_take, hC.tq.f, e5, nSI, if_true, if_false], ?_⟩))
      have e15 := hC.gu.2.1.1
      simp (maxSteps := 3000000) (disch := omega) only [Option.bind_some, tc_bs, tq_let, tc_I1, tc_I2, tc_J1, tc_J2, tc_J3, tc_F1, tc_F2, tc_F3, tc_F4, tc_G1, tc_G2, tc_G3, tc_G4, tc_G5, tc_us, tc_un, s_one, s_holds, s_J13_bitCount, bz_bI, f_X11_take, f_X11_refused, hC.mod.f, r1 c v2, n10, n20, e15, q0, z1, if_true, if_false]
  · obtain ⟨l1, r1⟩ := hC.ver_n q1
    have e5 : f_X10_take 0 x1 (tc_mk S c) = some (.inl "java/lang/IndexOutOfBoundsException", tc_mk S c) := by
      simp (maxSteps := 3000000) (disch := omega) only [Option.bind_some, tc_bs, tq_let, tc_I1, tc_I2, tc_J1, tc_J2, tc_J3, tc_F1, tc_F2, tc_F3, tc_F4, tc_G1, tc_G2, tc_G3, tc_G4, tc_G5, tc_us, tc_un, s_one, s_holds, s_J13_bitCount, bz_bI, f_X10_take, hC.tq.f, l1, tb_l]
    refine tk_no (fun k' hk' e _ _ => absurd (by rw [e]; exact ⟨nI_pos' (by omega), nI_lt hk' (by omega)⟩) q1) (arm_read hC hF (.inr ⟨1, 0, by decide, by simp (maxSteps := 3000000) (disch := omega) only [Option.bind_some, tc_bs, tq_let, tc_I1, tc_I2, tc_J1, tc_J2, tc_J3, tc_F1, tc_F2, tc_F3, tc_F4, tc_G1, tc_G2, tc_G3, tc_G4, tc_G5, tc_us, tc_un, s_one, s_holds, s_J13_bitCount, bz_bI, f_V_take, hC.tq.f, e5, if_true], ?_⟩))
    simp (maxSteps := 3000000) (disch := omega) only [Option.bind_some, tc_bs, tq_let, tc_I1, tc_I2, tc_J1, tc_J2, tc_J3, tc_F1, tc_F2, tc_F3, tc_F4, tc_G1, tc_G2, tc_G3, tc_G4, tc_G5, tc_us, tc_un, s_one, s_holds, s_J13_bitCount, bz_bI, f_X11_take, f_X11_refused, hC.mod.f, r1 c v2, n10, z1, if_true, if_false]
theorem arm_take (h : InvE di h0) (e1 : tq_sx n xs (y4 + 1) = some x1) : ∃ h', f_V_law_c3275 n xs 0 155 205 y4 h0 = some (.inl (y4 + 5, h')) ∧ InvE di h' := by
  obtain ⟨S, c, D, m, U, P, H, Z, X, nw, ed, nv, vt, mv, Dv, rfl, hC, hF⟩ := h
  have e0 : f_V_law_c3275 n xs 0 155 205 y4 (tc_mk S c) = armI (f_V_take 0 x1 205 (tc_mk S c)) (f_X11_take 155 x1) y4 := by
    unfold f_V_law_c3275; rw [e1]; rfl
  rw [e0]
  obtain ⟨h', a, b, -⟩ := hC.takeA hF (x1 := x1) (y4 := y4)
  exact ⟨h', a, b⟩
end TKR
