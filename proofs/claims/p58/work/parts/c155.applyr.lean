/-! ===== all updates are done: the reference ===== -/
abbrev Ra1 (a : Nat) : Prop := (156 ≤ a ∧ a ≤ 161) ∨ (163 ≤ a ∧ a ≤ 166) ∨ (168 ≤ a ∧ a ≤ 173) ∨ a = 188
abbrev Ra3 (q k : Nat) : Prop := q = 155 ∧ (k = 0 ∨ k = 1 ∨ k = 11)
abbrev Xa1 (a : Nat) : Prop := (156 ≤ a ∧ a ≤ 166) ∨ (168 ≤ a ∧ a ≤ 174) ∨ a = 182 ∨ a = 188 ∨ a = 192
abbrev Xa3 (q k : Nat) : Prop := q = 155 ∧ (k = 0 ∨ k = 1 ∨ k = 10 ∨ k = 11 ∨ k = 15)
section APR
variable {S : tq_H} {c c' c1 c2 d d1 e : tc_C} {di : DI} {D E : Doc} {m M : Nat} {U U' : Ups} {P : Pat} {H : Nat → Bool} {Z : Sma} {X : Nat → Bool} {nw : Nat} {ed : Option Nat} {nv : Nat} {vt mv : Nat → Nat} {Dv : Nat → Doc} {p q r k b i j n z : Nat} {x1 y4 : Int32} {xs : Nat → Int32} {h0 : tq_H}
theorem Ups.fr0 (hw : D.wf) (hu : U.wf m D) : U.fr m U.n 0 = false := by
  cases h : U.fr m U.n 0 with
  | false => rfl
  | true =>
    exfalso
    obtain ⟨k, k1, k2⟩ := anyB_iff.mp h
    obtain ⟨k2, k3⟩ := of_decide_eq_true k2
    have hm0 : 0 < m := by have := hu.1.2.2 0 (D.n_pos hw); omega
    unfold Ups.sj at k3
    by_cases q : U.uw k = 0
    · rw [if_pos q] at k3; omega
    · rw [if_neg q] at k3
      obtain ⟨i, i1, i2, -, i3, -⟩ := hu.2.2.1 k k1 q
      have := D.ord_inj hw i1 (D.n_pos hw) (by rw [← i2, k3, D.ord_0 hw])
      have := (i3 (k2.resolve_left q)).1
      omega
theorem Doc.kp0 (hw : E.wf) {f : Nat → Bool} (h : f 0 = false) : E.kp (E.frQ f) 0 = true := by
  rw [Doc.kp_iff]
  refine ⟨E.n_pos hw, by rw [E.kd_0 hw]; decide, ?_⟩
  rw [Doc.frQ_an (E.n_pos hw), Doc.anB_0 hw, E.ord_0 hw, h]; rfl
/-- the document behind the updates, where nothing is wrong -/
theorem Ups.doc_ao (hw : D.wf) (hu : U.wf m D) (hok : U.ok) (hr : m + U.ins U.n ≤ 60) (ht : ¬ (U.doc m D).tw) : (U.doc m D).ao := by
  have hf := U.frs hw hu hok hr
  have hR := U.rwsF (m := m) hw hu
  have := tF_ao (R := U.new m D) hf (U.aoF hw hu)
  rwa [tF_mk hf hR ht] at this
theorem Cor.applyR (h : Cor S c di D m U P H Z X nw ed nv vt mv Dv) (w : Wr Y1 Y2 Y3 Y4 c e) (pv : Nat → Nat) (hpv : ∀ k, k < nw → pv k < P.n ∧ c.1 150 k = nI (pv k) ∧ c.1 191 k = nI (pv k) ∧ c.2.1 193 k = D.V P (pv k)) :
    (¬ (U.ok ∧ m + U.ins U.n ≤ 60) → f_X11_apply 155 (tc_mk S e) = some (0, tc_mk S (tc_F e 155 0 1))) ∧
    (U.ok ∧ m + U.ins U.n ≤ 60 → (U.cyc m D ∨ (U.doc m D).tw ∨ (c.2.2.1 155 42 ≠ 0 ∧ (U.doc m D).ty Z 0 0 = false)) → ∃ e', f_X11_apply 155 (tc_mk S e) = some (0, tc_mk S e') ∧ RTree e' D m ∧ ROrd e' D ∧ e'.2.2.1 155 0 = 1 ∧ (∀ v, v < m → e'.1 156 v = e.1 156 v) ∧ Wr Ra1 uc2 Ra3 u4 e e') ∧
    (U.ok ∧ m + U.ins U.n ≤ 60 → ¬ (U.cyc m D ∨ (U.doc m D).tw ∨ (c.2.2.1 155 42 ≠ 0 ∧ (U.doc m D).ty Z 0 0 = false)) → ∃ e', f_X11_apply 155 (tc_mk S e) = some (nI (U.doc m D).n, tc_mk S e') ∧ RTree e' (U.doc m D) (m + U.ins U.n) ∧ ROrd e' (U.doc m D) ∧
      ((U.doc m D).fitN ((U.doc m D).frQ (U.fr m U.n)) (e.1 162) → Nb e' 162 (U.doc m D) ((U.doc m D).frQ (U.fr m U.n)) (e.1 162) ∧ e'.2.2.1 155 10 = e.2.2.1 155 10) ∧
      (¬ (U.doc m D).fitN ((U.doc m D).frQ (U.fr m U.n)) (e.1 162) → Na e' 162 (U.doc m D) (e.1 162) ∧ e'.2.2.1 155 10 = e.2.2.1 155 10 + 1) ∧
      (∀ j, j < nw → e'.1 192 j = nI (fb_ct (tb (D.V P (pv j) ^^^ (U.doc m D).V P (pv j))) 64) ∧ e'.2.1 193 j = (U.doc m D).V P (pv j)) ∧ e'.2.2.1 155 0 = 0 ∧ e'.2.2.1 155 15 = 0 ∧ (∀ v, v < m → e'.1 156 v = e.1 156 v) ∧ Wr Xa1 X2 Xa3 X4 e e') := by
  obtain ⟨a1, a2, a3, a4, a5, a6, a7, a8, a9, a10, a11, a12⟩ := h.refs w
  have hw := h.gt.1.1
  have hu := h.gu.2.2
  have hm60 := h.gt.2.2.1.1
  have hn20 := h.gu.1.2.1
  have n10 : ¬ (1 : Int32) = 0 := by decide
  have z0 : tq_bz 0 = some 0 := rfl
  have z1 : tq_bz 1 = some 1 := rfl
  have b0 : bI false = 0 := rfl
  have b1 : ¬ bI true = 0 := by decide
  have is11 : ∀ c, tq_is (tc_mk S c) 155 11 = some () := fun c => by simp (maxSteps := 3000000) (disch := omega) only [Option.bind_some, tc_bs, tq_let, tc_I1, tc_I2, tc_J1, tc_J2, tc_J3, tc_F1, tc_F2, tc_F3, tc_F4, tc_G1, tc_G2, tc_G3, tc_G4, tc_G5, tc_us, tc_un, s_one, s_holds, s_J13_bitCount, bz_bI, h.mod.f]
  obtain ⟨ro, o1, o2⟩ := s_X11_isAtOdds (S := S) h.mod hw hu a5
  have o3 := s_X11_madeBehind (S := S) h.mod a1.1 hu a5
  have hins : U.ins U.n ≤ U.n := fb_ct_le _ _
  refine ⟨fun hno => ?_, ?_, ?_⟩
  · cases hro : ro with
    | true =>
      rw [hro] at o1
      simp (maxSteps := 3000000) (disch := omega) only [Option.bind_some, tc_bs, tq_let, tc_I1, tc_I2, tc_J1, tc_J2, tc_J3, tc_F1, tc_F2, tc_F3, tc_F4, tc_G1, tc_G2, tc_G3, tc_G4, tc_G5, tc_us, tc_un, s_one, s_holds, s_J13_bitCount, bz_bI, f_X11_apply, is11, o1, b1, f_X11_refused, h.mod.f, n10, z1, if_false]
    | false =>
      rw [hro] at o1
      have hok : U.ok := o2.mp hro
      have q60 : ¬ nI (m + U.ins U.n) ≤ 60 := fun z => hno ⟨hok, (nI_leI (show m + U.ins U.n < 2 ^ 31 by omega) (show 60 < 2 ^ 31 by decide)).mp z⟩
      simp (maxSteps := 3000000) (disch := omega) only [Option.bind_some, tc_bs, tq_let, tc_I1, tc_I2, tc_J1, tc_J2, tc_J3, tc_F1, tc_F2, tc_F3, tc_F4, tc_G1, tc_G2, tc_G3, tc_G4, tc_G5, tc_us, tc_un, s_one, s_holds, s_J13_bitCount, bz_bI, f_X11_apply, is11, o1, b0, o3, q60, f_X11_refused, h.mod.f, n10, z1, if_true, if_false]
  all_goals
    rintro ⟨hok, hr⟩
    have hro : ro = false := o2.mpr hok
    rw [hro] at o1
    have q60 : nI (m + U.ins U.n) ≤ 60 := nI_le (show m + U.ins U.n ≤ 60 from hr) (by decide)
    have hf := U.frs hw hu hok hr
    have hRw := U.rwsF (m := m) hw hu
    have hwE := U.doc_wf hw hu hok hr
    have rt0 : RTree (tc_F e 155 0 0) D m := a1.wr (Wr.F _ ⟨rfl, rfl⟩ : Wr uc2 uc2 x3w u4 e (tc_F e 155 0 0)) (fun _ _ z => z) (fun z => by omega)
    have k0 : Wr Ra1 uc2 Ra3 u4 e (tc_F e 155 0 0) := Wr.F _ (by omega)
    obtain ⟨e1, q1, q2, q3, q4⟩ := rp_start (S := S) (U := U) h.mod hw rt0
    have k1 : Wr Ra1 uc2 Ra3 u4 (tc_F e 155 0 0) e1 := ⟨fun a ha => q3 a (by omega), fun a _ => by rw [q4], fun q k _ => by rw [q4], fun q k _ => by rw [q4], by rw [q4]⟩
    have k01 := k0.trans k1
    have hm1 : e1.2.2.1 155 1 = nI m := by rw [q4]; exact a1.1
    have ez1 : e1.2.2.1 155 0 = 0 := by rw [q4]; rfl
    have km : Wr m1w uc2 l3w u4 (tc_F e 155 0 0) e1 := ⟨fun a ha => q3 a (by omega), fun a _ => by rw [q4], fun q k _ => by rw [q4], fun q k _ => by rw [q4], by rw [q4]⟩
    have ro1 : ROrd e1 D := (a2.wr (Wr.F _ ⟨rfl, rfl⟩ : Wr uc2 uc2 x3w u4 e (tc_F e 155 0 0)) (fun _ _ z => z) (fun z => by omega)).wr km (fun a ha z => by omega) (fun z => z)
    have f1 := s_X11_all (S := S) h.mod hw ro1
    have ur1 : UR e1 U := by
      have := a5
      unfold UR at this ⊢
      rw [k01.2.2.1 155 15 (by omega), k01.1 167 (by omega)]
      exact this
    obtain ⟨e2, p1, p2, p3, p4⟩ := s_X11_perform (S := S) h.mod hw hu hok hr ur1 q2
    have k2 : Wr Ra1 uc2 Ra3 u4 e1 e2 := by
      obtain ⟨x1, x2, x3, x4, x5⟩ := p3
      refine ⟨fun a ha => x1 a (by omega), fun a _ => by rw [x2], fun q k hq => ?_, fun q k _ => by rw [x5], by rw [x5]⟩
      by_cases z : q = 155
      · subst z; exact x4 k (by omega)
      · rw [x3 q z]
    have k02 := k01.trans k2
    have ez2 : e2.2.2.1 155 0 = 0 := by rw [p3.2.2.2.1 0 (by omega)]; exact ez1
    have h156 : ∀ v, v < m → e2.1 156 v = e.1 156 v := fun v hv => by rw [p4 v hv, q3 156 (by omega)]; rfl
    obtain ⟨rs, s1, s2⟩ := s_X11_isSound (S := S) h.mod hw hu hf p2
    -- coming back
    have back : ∀ e3, Wr Ra1 uc2 Ra3 u4 e e3 → RMem e3 D → (∀ v, v < m → e3.1 156 v = e.1 156 v) → ∃ e5, f_X11_comeBack 155 (tc_mk S (tc_F e3 155 1 (nI m))) = some (tc_mk S e5) ∧ ∃ e6, f_X11_arrange 155 (tc_mk S e5) = some (tc_mk S e6) ∧ RTree (tc_F e6 155 0 1) D m ∧ ROrd (tc_F e6 155 0 1) D ∧ (∀ v, v < m → (tc_F e6 155 0 1).1 156 v = e.1 156 v) ∧ Wr Ra1 uc2 Ra3 u4 e (tc_F e6 155 0 1) := by
      intro e3 kk rm h3
      have kF : Wr Ra1 uc2 Ra3 u4 e3 (tc_F e3 155 1 (nI m)) := Wr.F _ (by omega)
      obtain ⟨e4, g1, g2, g3⟩ := RMem.back (S := S) (c := tc_F e3 155 1 (nI m)) (m := m) h.mod hw ⟨hm60, h.gt.2.2.1.2.1⟩ rfl (fun i hi => by
        show e3.1 156 (D.ord i) = _
        rw [h3 _ (h.gt.2.2.1.2.1 i hi)]; exact a1.2.2.2.2.1 i hi) rm
      obtain ⟨e5, u1, u2, u3⟩ := s_X11_arrange (S := S) h.mod hw h.gt.1.2 (fun x hx => RTree.ans h.mod hw (g2.af hx) h.gt.1.2)
      have k34 : Wr Ra1 uc2 Ra3 u4 (tc_F e3 155 1 (nI m)) e4 := ⟨fun a ha => g3.1 a (by omega), fun a _ => by rw [g3.2], fun q k _ => by rw [g3.2], fun q k _ => by rw [g3.2], by rw [g3.2]⟩
      have g2' := g2.af u3
      obtain ⟨x1, x2, x3, x4, x5, x6⟩ := u3
      have k45 : Wr Ra1 uc2 Ra3 u4 e4 e5 := ⟨fun a ha => x1 a (by omega), fun a _ => by rw [x2], fun q k hq => by
        by_cases z : q = 155
        · subst z; exact x4 k (by omega)
        · rw [x3 q z], fun q k _ => by rw [x5], x6⟩
      have kG : Wr uc2 uc2 x3w u4 e5 (tc_F e5 155 0 1) := Wr.F _ ⟨rfl, rfl⟩
      refine ⟨e4, g1, e5, u1, g2'.wr kG (fun _ _ z => z) (fun z => by omega), u2.wr kG (fun _ _ z => z) (fun z => by omega), fun v hv => ?_, (((kk.trans kF).trans k34).trans k45).trans (kG.mono (fun _ z => z.elim) (fun _ z => z) (fun q k z => by omega) (fun _ _ z => z))⟩
      show e5.1 156 v = _
      rw [x1 156 (by omega), g3.1 156 (by omega)]
      exact h3 v hv
  · intro hbad
    cases hrs : rs with
    | false =>
      rw [hrs] at s1
      obtain ⟨e5, g1, e6, g2, g3, g4, g5, g6⟩ := back e2 k02 p2.2.2.2.2.2.2.2 h156
      refine ⟨_, ?_, g3, g4, rfl, g5, g6⟩
      simp (maxSteps := 3000000) (disch := omega) only [Option.bind_some, tc_bs, tq_let, tc_I1, tc_I2, tc_J1, tc_J2, tc_J3, tc_F1, tc_F2, tc_F3, tc_F4, tc_G1, tc_G2, tc_G3, tc_G4, tc_G5, tc_us, tc_un, s_one, s_holds, s_J13_bitCount, bz_bI, f_X11_apply, is11, o1, b0, o3, q60, f_X11_refused, h.mod.f, n10, z0, q1, hm1, f1, p1, s1, g1, g2, z1, if_true, if_false]
    | true =>
      rw [hrs] at s1
      have hncyc : ¬ U.cyc m D := fun z => by have := s2.mpr z; rw [hrs] at this; cases this
      obtain ⟨e3, t1, t2, t3, t4⟩ := p2.mark h.mod hw hu hok hr (mkS (D.nodesOf (fun _ => true)))
      obtain ⟨e4, u1, u2, u3⟩ := t2.arrange h.mod hf hRw (U.aoF hw hu)
      obtain ⟨r, v1, v2⟩ := (t2.af u3).twice h.mod hf hRw
      have k23 : Wr Ra1 uc2 Ra3 u4 e2 e3 := ⟨fun a ha => t3 a (by omega), fun a _ => by rw [t4], fun q k _ => by rw [t4], fun q k _ => by rw [t4], by rw [t4]⟩
      have k34 : Wr Ra1 uc2 Ra3 u4 e3 e4 := by
        obtain ⟨x1, x2, x3, x4, x5, x6⟩ := u3
        refine ⟨fun a ha => x1 a (by omega), fun a _ => by rw [x2], fun q k hq => ?_, fun q k _ => by rw [x5], x6⟩
        by_cases z : q = 155
        · subst z; exact x4 k (by omega)
        · rw [x3 q z]
      have k04 := (k02.trans k23).trans k34
      have h156' : ∀ v, v < m → e4.1 156 v = e.1 156 v := fun v hv => by rw [u3.1 156 (by omega), t3 156 (by omega)]; exact h156 v hv
      have rm4 : RMem e4 D := RMem.cg (c := e2) p2.2.2.2.2.2.2.2 fun a h1 h2 => by rw [u3.1 a (by omega), t3 a (by omega)]
      cases hr2 : r with
      | true =>
        rw [hr2] at v1
        obtain ⟨e5, g1, e6, g2, g3, g4, g5, g6⟩ := back e4 k04 rm4 h156'
        refine ⟨_, ?_, g3, g4, rfl, g5, g6⟩
        simp (maxSteps := 3000000) (disch := omega) only [Option.bind_some, tc_bs, tq_let, tc_I1, tc_I2, tc_J1, tc_J2, tc_J3, tc_F1, tc_F2, tc_F3, tc_F4, tc_G1, tc_G2, tc_G3, tc_G4, tc_G5, tc_us, tc_un, s_one, s_holds, s_J13_bitCount, bz_bI, f_X11_apply, is11, o1, b0, o3, q60, f_X11_refused, h.mod.f, n10, z0, q1, hm1, f1, p1, s1, b1, t1, u1, v1, g1, g2, z1, if_true, if_false]
      | false =>
        rw [hr2] at v1
        have hntw : ¬ (U.doc m D).tw := fun z => by have := v2.mpr z; rw [hr2] at this; cases this
        obtain ⟨q42, hty⟩ := (hbad.resolve_left hncyc).resolve_left hntw
        have e42 : ¬ e4.2.2.1 155 42 = 0 := by rw [k04.2.2.1 155 42 (by omega), a6]; exact q42
        have rt4 : RTree e4 (U.doc m D) (m + U.ins U.n) := RRF.tree hf hRw (t2.af u3)
        have ro4 : ROrd e4 (U.doc m D) := by rw [tF_mk hf hRw hntw] at u2; exact u2
        obtain ⟨f, r1⟩ := s_X11_isRight (S := S) h.mod hwE rt4 ro4 (U.doc_ao hw hu hok hr hntw) (a4.wr k04 (fun a _ => by omega))
        rw [hty] at r1
        have k45 : Wr (fun a => a = 188) uc2 l3w u4 e4 (tc_I e4 188 f) := Wr.I _ rfl
        obtain ⟨e5, g1, e6, g2, g3, g4, g5, g6⟩ := back (tc_I e4 188 f) (k04.trans (k45.mono (fun a z => by omega) (fun _ z => z) (fun _ _ z => z.elim) (fun _ _ z => z))) (rm4.wr k45 (fun a h1 h2 z => by omega)) h156'
        refine ⟨_, ?_, g3, g4, rfl, g5, g6⟩
        simp (maxSteps := 3000000) (disch := omega) only [Option.bind_some, tc_bs, tq_let, tc_I1, tc_I2, tc_J1, tc_J2, tc_J3, tc_F1, tc_F2, tc_F3, tc_F4, tc_G1, tc_G2, tc_G3, tc_G4, tc_G5, tc_us, tc_un, s_one, s_holds, s_J13_bitCount, bz_bI, f_X11_apply, is11, o1, b0, o3, q60, f_X11_refused, h.mod.f, n10, z0, q1, hm1, f1, p1, s1, b1, t1, u1, v1, e42, r1, g1, g2, z1, if_true, if_false]
  · intro hgood
    have hncyc : ¬ U.cyc m D := fun z => hgood (.inl z)
    have hntw : ¬ (U.doc m D).tw := fun z => hgood (.inr (.inl z))
    have hrs : rs = true := by
      cases hh : rs with
      | true => rfl
      | false => exact absurd (s2.mp hh) hncyc
    rw [hrs] at s1
    obtain ⟨e3, t1, t2, t3, t4⟩ := p2.mark h.mod hw hu hok hr (mkS (D.nodesOf (fun _ => true)))
    obtain ⟨e4, u1, u2, u3⟩ := t2.arrange h.mod hf hRw (U.aoF hw hu)
    obtain ⟨r, v1, v2⟩ := (t2.af u3).twice h.mod hf hRw
    have hr2 : r = false := by
      cases hh : r with
      | false => rfl
      | true => exact absurd (v2.mp hh) hntw
    rw [hr2] at v1
    have k23 : Wr Ra1 uc2 Ra3 u4 e2 e3 := ⟨fun a ha => t3 a (by omega), fun a _ => by rw [t4], fun q k _ => by rw [t4], fun q k _ => by rw [t4], by rw [t4]⟩
    have k34 : Wr Ra1 uc2 Ra3 u4 e3 e4 := by
      obtain ⟨x1, x2, x3, x4, x5, x6⟩ := u3
      refine ⟨fun a ha => x1 a (by omega), fun a _ => by rw [x2], fun q k hq => ?_, fun q k _ => by rw [x5], x6⟩
      by_cases z : q = 155
      · subst z; exact x4 k (by omega)
      · rw [x3 q z]
    have k04 := (k02.trans k23).trans k34
    have h156' : ∀ v, v < m → e4.1 156 v = e.1 156 v := fun v hv => by rw [u3.1 156 (by omega), t3 156 (by omega)]; exact h156 v hv
    have ez4 : e4.2.2.1 155 0 = 0 := by rw [u3.2.2.2.1 0 (by omega), t4]; exact ez2
    have rt4 : RTree e4 (U.doc m D) (m + U.ins U.n) := RRF.tree hf hRw (t2.af u3)
    have ro4 : ROrd e4 (U.doc m D) := by rw [tF_mk hf hRw hntw] at u2; exact u2
    have hao := U.doc_ao hw hu hok hr hntw
    obtain ⟨f, r1⟩ := s_X11_isRight (S := S) h.mod hwE rt4 ro4 hao (a4.wr k04 (fun a _ => by omega))
    have k45 : Wr (fun a => a = 188) uc2 l3w u4 e4 (tc_I e4 188 f) := Wr.I _ rfl
    -- numbers and views
    have tail : ∀ e5, Wr Ra1 uc2 Ra3 u4 e e5 → RTree e5 (U.doc m D) (m + U.ins U.n) → ROrd e5 (U.doc m D) → e5.2.2.1 155 0 = 0 → (∀ v, v < m → e5.1 156 v = e.1 156 v) →
        ∃ e6 e8 e9, f_X11_markNew 155 (nI m) (mkS (D.nodesOf (fun _ => true))) (tc_mk S e5) = some (tc_mk S e6) ∧ f_X11_number 155 (tc_mk S (tc_F e6 155 15 0)) = some (tc_mk S e8) ∧ f_X11_lookAtViews 155 (tc_mk S e8) = some (tc_mk S e9) ∧ e9.2.2.1 155 11 = nI (U.doc m D).n ∧ RTree e9 (U.doc m D) (m + U.ins U.n) ∧ ROrd e9 (U.doc m D) ∧
        ((U.doc m D).fitN ((U.doc m D).frQ (U.fr m U.n)) (e.1 162) → Nb e9 162 (U.doc m D) ((U.doc m D).frQ (U.fr m U.n)) (e.1 162) ∧ e9.2.2.1 155 10 = e.2.2.1 155 10) ∧
        (¬ (U.doc m D).fitN ((U.doc m D).frQ (U.fr m U.n)) (e.1 162) → Na e9 162 (U.doc m D) (e.1 162) ∧ e9.2.2.1 155 10 = e.2.2.1 155 10 + 1) ∧
        (∀ j, j < nw → e9.1 192 j = nI (fb_ct (tb (D.V P (pv j) ^^^ (U.doc m D).V P (pv j))) 64) ∧ e9.2.1 193 j = (U.doc m D).V P (pv j)) ∧ e9.2.2.1 155 0 = 0 ∧ e9.2.2.1 155 15 = 0 ∧ (∀ v, v < m → e9.1 156 v = e.1 156 v) ∧ Wr Xa1 X2 Xa3 X4 e e9 := by
      intro e5 kk rt ro ez hk
      have ur5 : UR e5 U := by
        have := a5
        unfold UR at this ⊢
        rw [kk.2.2.1 155 15 (by omega), kk.1 167 (by omega)]
        exact this
      obtain ⟨e6, g1, g2, g3, g4⟩ := s_X11_markNew (S := S) h.mod hw hu hwE rt ur5 (D.nodesOf (fun _ => true)) (nI m)
      obtain ⟨e7, ee7⟩ : ∃ e7, e7 = tc_F e6 155 15 0 := ⟨_, rfl⟩
      have km : Wr (fun a => a = 174) uc2 (fun q k => q = 155 ∧ k = 15) u4 e5 e7 := by
        rw [ee7]
        exact Wr.trans (⟨fun a ha => g3 a ha, fun a _ => by rw [g4], fun q k _ => by rw [g4], fun q k _ => by rw [g4], by rw [g4]⟩ : Wr (fun a => a = 174) uc2 (fun q k => q = 155 ∧ k = 15) u4 e5 e6) (Wr.F _ ⟨rfl, rfl⟩)
      have rt7 := rt.wr km (fun a ha z => by omega) (fun z => by omega)
      have ro7 := ro.wr km (fun a ha z => by omega) (fun z => by omega)
      have k07 : Wr Xa1 uc2 Xa3 u4 e e7 := (kk.mono (fun a z => by omega) (fun _ z => z) (fun q k z => by omega) (fun _ _ z => z)).trans (km.mono (fun a z => by omega) (fun _ z => z) (fun q k z => by omega) (fun _ _ z => z))
      have e162 : e7.1 162 = e.1 162 := by rw [km.1 162 (by omega), kk.1 162 (by omega)]
      have e10 : e7.2.2.1 155 10 = e.2.2.1 155 10 := by rw [km.2.2.1 155 10 (by omega), kk.2.2.1 155 10 (by omega)]
      have hRN : RNm S e7 205 (m + U.ins U.n) (U.doc m D) ((U.doc m D).frQ (U.fr m U.n)) := by
        refine ⟨h.mod, hwE, rt7, ro7, fun j hj => ?_, Doc.kp0 hwE (U.fr0 hw hu), fun j hj => ⟨_, by rw [ee7]; exact g2 j hj, ?_⟩⟩
        · have h1 : (U.doc m D).frQ (U.fr m U.n) j = true := hj
          unfold Doc.frQ at h1
          rw [Bool.and_eq_true] at h1
          exact of_decide_eq_true h1.2
        · rw [Doc.frQ_an hj, U.fr_new hw hu hok hr hj]
      obtain ⟨e8, n1, n2, n3, n4⟩ := s_X11_number (S := S) hRN
      rw [e162] at n2 n3
      have e82 : ∀ q k, ¬ (q = 155 ∧ k = 10) → e8.2.2.1 q k = e7.2.2.1 q k := fun q k hq => by
        by_cases w : (U.doc m D).fitN ((U.doc m D).frQ (U.fr m U.n)) (e.1 162)
        · rw [(n2 w).2]
        · rw [(n3 w).2, tc_F3]
          by_cases z : q = 155
          · subst z; rw [tc_us, tc_un _ _ (by omega)]
          · rw [tc_un _ _ z]
      have e8r : e8.2.1 = e7.2.1 ∧ e8.2.2.2 = e7.2.2.2 := by
        by_cases w : (U.doc m D).fitN ((U.doc m D).frQ (U.fr m U.n)) (e.1 162)
        · rw [(n2 w).2]; exact ⟨rfl, rfl⟩
        · rw [(n3 w).2]; exact ⟨rfl, rfl⟩
      have kn : Wr (fun a => a = 162) uc2 (fun q k => q = 155 ∧ k = 10) u4 e7 e8 := ⟨fun a ha => n4 a ha, fun a _ => by rw [e8r.1], e82, fun q k _ => by rw [e8r.2], by rw [e8r.2]⟩
      have rt8 := rt7.wr kn (fun a ha z => by omega) (fun z => by omega)
      have ro8 := ro7.wr kn (fun a ha z => by omega) (fun z => by omega)
      have k08 : Wr Xa1 uc2 Xa3 u4 e e8 := k07.trans (kn.mono (fun a z => by omega) (fun _ z => z) (fun q k z => by omega) (fun _ _ z => z))
      obtain ⟨e9, l1, l2, l3⟩ := s_lookAtViews (S := S) (nw := nw) h.mod hwE rt8 ro8 (a3.wr k08 (fun a _ => by omega) (by omega)) h.gp.2.2 (by rw [k08.2.2.1 155 45 (by omega)]; exact a7) h.gv.2.2.1 pv (fun j hj => ⟨(hpv j hj).1, by rw [k08.1 191 (by omega), a10]; exact (hpv j hj).2.2.1⟩) (fun j hj => by rw [k08.2.1 193 (fun z => z), a11]; exact (hpv j hj).2.2.2)
      have ro9 := ro8.wr l3 (fun a _ => by omega) (fun z => z)
      refine ⟨e6, e8, e9, g1, by rw [ee7] at n1; exact n1, l1, ro9.1, rt8.wr l3 (fun a _ => by omega) (fun z => z), ro9, fun w => ?_, fun w => ?_, l2, ?_, ?_, fun v hv => ?_, (k08.mono (fun a z => z) (fun _ z => z.elim) (fun _ _ z => z) (fun _ _ z => z.elim)).trans (l3.mono (fun a z => by omega) (fun a z => by omega) (fun _ _ z => z.elim) (fun _ _ z => z))⟩
      · obtain ⟨w1, w2⟩ := n2 w
        refine ⟨⟨fun j hj => by rw [l3.1 162 (by omega)]; exact w1.1 j hj, fun v hv => by rw [l3.1 162 (by omega)]; exact w1.2 v hv⟩, by rw [l3.2.2.1 155 10 (fun z => z), w2]; exact e10⟩
      · obtain ⟨w1, w2⟩ := n3 w
        refine ⟨⟨fun j hj hj2 => by rw [l3.1 162 (by omega)]; exact w1.1 j hj hj2, fun v hv => by rw [l3.1 162 (by omega)]; exact w1.2 v hv⟩, by rw [l3.2.2.1 155 10 (fun z => z), w2, ← e10, tc_F3, tc_us, tc_us]⟩
      · rw [l3.2.2.1 155 0 (fun z => z), e82 155 0 (by omega), km.2.2.1 155 0 (by omega)]; exact ez
      · rw [l3.2.2.1 155 15 (fun z => z), e82 155 15 (by omega), ee7]; rfl
      · rw [l3.1 156 (by omega), n4 156 (by omega), km.1 156 (by omega)]; exact hk v hv
    by_cases q42 : c.2.2.1 155 42 = 0
    · have e42 : e4.2.2.1 155 42 = 0 := by rw [k04.2.2.1 155 42 (by omega), a6]; exact q42
      obtain ⟨e6, e8, e9, g1, g2, g3, g4, g5, g6, g7, g8, g9, g10, g11, g12, g13⟩ := tail e4 k04 rt4 ro4 ez4 h156'
      refine ⟨e9, ?_, g5, g6, g7, g8, g9, g10, g11, g12, g13⟩
      simp (maxSteps := 3000000) (disch := omega) only [Option.bind_some, tc_bs, tq_let, tc_I1, tc_I2, tc_J1, tc_J2, tc_J3, tc_F1, tc_F2, tc_F3, tc_F4, tc_G1, tc_G2, tc_G3, tc_G4, tc_G5, tc_us, tc_un, s_one, s_holds, s_J13_bitCount, bz_bI, f_X11_apply, is11, o1, b0, o3, q60, f_X11_refused, h.mod.f, n10, z0, q1, hm1, f1, p1, s1, b1, t1, u1, v1, e42, g1, g2, g3, g4, if_true, if_false]
    · have e42 : ¬ e4.2.2.1 155 42 = 0 := by rw [k04.2.2.1 155 42 (by omega), a6]; exact q42
      have hty : (U.doc m D).ty Z 0 0 = true := by
        cases hh : (U.doc m D).ty Z 0 0 with
        | true => rfl
        | false => exact absurd (.inr (.inr ⟨q42, hh⟩)) hgood
      rw [hty] at r1
      obtain ⟨e6, e8, e9, g1, g2, g3, g4, g5, g6, g7, g8, g9, g10, g11, g12, g13⟩ := tail (tc_I e4 188 f) (k04.trans (k45.mono (fun a z => by omega) (fun _ z => z) (fun _ _ z => z.elim) (fun _ _ z => z))) (rt4.wr k45 (fun a ha z => by omega) (fun z => z)) (ro4.wr k45 (fun a ha z => by omega) (fun z => z)) ez4 h156'
      refine ⟨e9, ?_, g5, g6, g7, g8, g9, g10, g11, g12, g13⟩
      simp (maxSteps := 3000000) (disch := omega) only [Option.bind_some, tc_bs, tq_let, tc_I1, tc_I2, tc_J1, tc_J2, tc_J3, tc_F1, tc_F2, tc_F3, tc_F4, tc_G1, tc_G2, tc_G3, tc_G4, tc_G5, tc_us, tc_un, s_one, s_holds, s_J13_bitCount, bz_bI, f_X11_apply, is11, o1, b0, o3, q60, f_X11_refused, h.mod.f, n10, z0, q1, hm1, f1, p1, s1, b1, t1, u1, v1, e42, r1, g1, g2, g3, g4, if_true, if_false]
end APR
