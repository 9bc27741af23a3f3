/-! ===== the law: both stores, act by act ===== -/
section LAW
variable {dk : DI} {k' : Nat} {PK : Int32 → Nat → Prop} {A B : Nat → tq_H → Option (Int32 × tq_H)} {F : tq_H → Option (Int32 × tq_H)} {W W' W1 W2 H H' : tq_H} {v w x y : Int32} {r r' r1 r2 : Nat → Nat} {d d' d1 d2 : Nat → Prop} {sn : Nat} {xs : Nat → Int32} {j t u T n : Nat}
theorem St.refl (W : tq_H) : St W W := ⟨rfl, fun _ _ => rfl⟩
theorem GI.off (yF : ∀ {r : Nat → Nat} {d : Nat → Prop} {W0 H0 W H : tq_H}, Em r d W0 H0 True W H → Rr r d 0 (r 0) → Sm (Rp Eq (Em r d W0 H0 True)) (F W) (A (r 0) H)) (h : Rl r d W H) (e : F W = some (v, W')) : ∀ q, 155 ≤ q → q ≤ 204 → W'.2 q = W.2 q := by
  obtain ⟨⟨v', H'⟩, e1, e2, e3⟩ := yF h.em ⟨Or.inl h.1, rfl⟩ _ e
  obtain ⟨-, o2, -, -⟩ := Em.off h e3
  exact fun q a b => o2 q a (by omega)
/-- the other store does something by itself that leaves the reference -/
theorem PS.act2 {PV : Int32 → Prop} (h : PS dk x H) (yF : ∀ {r : Nat → Nat} {d : Nat → Prop} {W0 H0 W H : tq_H}, Em r d W0 H0 True W H → Rr r d 0 (r 0) → Sm (Rp Eq (Em r d W0 H0 True)) (F W) (A (r 0) H))
    (g : ∀ W, GI dk W → ∃ v W', PV v ∧ F W = some (v, W') ∧ InvE dk W') : ∃ v H', PV v ∧ A 155 H = some (v, H') ∧ PS dk x H' := by
  obtain ⟨r1, d1, W1, r2, d2, W2, ⟨l1, z1⟩, ⟨l2, z2⟩, hd, i1, i2, hR, ⟨n1, n2, n3⟩, f, f1, f2⟩ := h
  obtain ⟨v, W2', pv, e, i2'⟩ := g W2 ⟨i2, r2, d2, H, l2⟩
  obtain ⟨r2', d2', H2, e2, l2', k2⟩ := run_of yF e (St.refl _) i2' r2 d2 H l2
  have of := GI.off yF l2 e
  obtain ⟨l1', hd'⟩ := k2.other l2' l1 (fun q q' hq hq' z => hd q' q hq' hq z.symm)
  obtain ⟨m1, m2, m3⟩ := k2.nc n1 n3
  rw [z2] at e2
  refine ⟨v, H2, pv, e2, r1, d1, W1, r2', d2', W2', ⟨l1', z1⟩, ⟨l2', k2.1.trans z2⟩, fun q q' hq hq' z => hd' q' q hq' hq z.symm, i1, i2', fun q a b => (hR q a b).trans (of q a b).symm, ⟨m1, n2, m2⟩, f, ?_, f2⟩
  rw [m3, f1]
/-- the one store -/
theorem PS.act1 {PV : Int32 → Prop} (h : PS dk x H) (yF : ∀ {r : Nat → Nat} {d : Nat → Prop} {W0 H0 W H : tq_H}, Em r d W0 H0 True W H → Rr r d 0 (r 0) → Sm (Rp Eq (Em r d W0 H0 True)) (F W) (A (r 0) H))
    (g : ∀ W, GI dk W → ∃ v W', PV v ∧ F W = some (v, W') ∧ InvE dk W') : ∃ v H', PV v ∧ A 0 H = some (v, H') ∧ PS dk x H' := by
  obtain ⟨r1, d1, W1, r2, d2, W2, ⟨l1, z1⟩, ⟨l2, z2⟩, hd, i1, i2, hR, ⟨n1, n2, n3⟩, f, f1, f2⟩ := h
  obtain ⟨v, W1', pv, e, i1'⟩ := g W1 ⟨i1, r1, d1, H, l1⟩
  obtain ⟨r1', d1', H2, e2, l1', k2⟩ := run_of yF e (St.refl _) i1' r1 d1 H l1
  have of := GI.off yF l1 e
  obtain ⟨l2', hd'⟩ := k2.other l1' l2 hd
  obtain ⟨m1, m2, m3⟩ := k2.nc n1 n2
  rw [z1] at e2
  refine ⟨v, H2, pv, e2, r1', d1', W1', r2, d2, W2, ⟨l1', k2.1.trans z1⟩, ⟨l2', z2⟩, hd', i1', i2, fun q a b => (of q a b).trans (hR q a b), ⟨m1, m2, n3⟩, f, ?_, f2⟩
  rw [m3, f1]
/-- an act of both, with calls between that throw -/
theorem PS.act {wv : Int32} (h : PS dk x H) (a : ∀ W, GI dk W → Op dk k' PK A W) (yF : ∀ {r : Nat → Nat} {d : Nat → Prop} {W0 H0 W H : tq_H}, Em r d W0 H0 True W H → Rr r d 0 (r 0) → Sm (Rp Eq (Em r d W0 H0 True)) (F W) (B (r 0) H))
    (g : ∀ W, GI dk W → ∃ W', F W = some (wv, W') ∧ InvE dk W') : ∃ v u H1 H2 H3, PK v u ∧ A 0 H = some (v, H1) ∧ (∃ f : Nat → Int32, H1.2 310 = .inr (0, (1, .inl f)) ∧ f 0 = x) ∧ B 155 H1 = some (wv, H2) ∧ A 155 H2 = some (v, H3) ∧ PS (dk.1, k', u) x H3 := by
  obtain ⟨r1, d1, W1, r2, d2, W2, ⟨l1, z1⟩, ⟨l2, z2⟩, hd, i1, i2, hR, ⟨n1, n2, n3⟩, f, f1, f2⟩ := h
  obtain ⟨v, u, W1', p, j1, run1, fol⟩ := a W1 ⟨i1, r1, d1, H, l1⟩
  obtain ⟨r1', d1', H1, e1, l1', k1⟩ := run1 r1 d1 H l1
  obtain ⟨l2', hd'⟩ := k1.other l1' l2 hd
  obtain ⟨m1, m2, m3⟩ := k1.nc n1 n2
  -- the calls that throw
  obtain ⟨W2', e, i2'⟩ := g W2 ⟨i2, r2, d2, H1, l2'⟩
  obtain ⟨r2', d2', H2, e2, l2'', k2⟩ := run_of yF e (St.refl _) i2' r2 d2 H1 l2'
  have of := GI.off yF l2' e
  obtain ⟨l1'', hd''⟩ := k2.other l2'' l1' (fun q q' hq hq' z => hd' q' q hq' hq z.symm)
  obtain ⟨o1, o2, o3⟩ := k2.nc m1 n3
  have hR' : Rf2 W1 W2' := fun q a b => (hR q a b).trans (of q a b).symm
  -- the act of the other
  obtain ⟨W2'', j2, hR'', run2⟩ := fol W2' ⟨i2', r2', d2', H2, l2''⟩ hR'
  obtain ⟨r3, d3, H3, e3, l3, k3⟩ := run2 r2' d2' H2 l2''
  obtain ⟨l1f, hdf⟩ := k3.other l3 l1'' hd''
  obtain ⟨p1, p2, p3⟩ := k3.nc o1 o2
  have k20 : r2' 0 = 155 := k2.1.trans z2
  rw [z1] at e1
  rw [z2] at e2
  rw [k20] at e3
  refine ⟨v, u, H1, H2, H3, p, e1, ⟨f, by rw [m3, f1], f2⟩, e2, e3, r1', d1', W1', r3, d3, W2'', ⟨l1f, k1.1.trans z1⟩, ⟨l3, k3.1.trans k20⟩, fun q q' hq hq' z => hdf q' q hq' hq z.symm, j1, j2, hR'', ⟨p1, m2, p2⟩, f, ?_, f2⟩
  rw [p3, o3, m3, f1]
/-- n's cell -/
theorem ai_310 {f : Nat → Int32} (h : H.2 310 = .inr (0, (1, .inl f))) : tq_ai H 310 0 = some (f 0) := by
  unfold tq_ai
  rw [h]
  rfl
theorem PS.ai (h : PS dk x H) : tq_ai H 310 0 = some x := by
  obtain ⟨r1, d1, W1, r2, d2, W2, -, -, -, -, -, -, -, f, f1, f2⟩ := h
  rw [ai_310 f1, f2]
theorem PS.si (h : PS dk x H) (y : Int32) : ∃ H', tq_si H 310 0 y = some H' ∧ PS dk y H' := by
  obtain ⟨r1, d1, W1, r2, d2, W2, ⟨l1, z1⟩, ⟨l2, z2⟩, hd, i1, i2, hR, ⟨n1, n2, n3⟩, f, f1, f2⟩ := h
  have up : ∀ {r : Nat → Nat} {d : Nat → Prop} {W : tq_H} (o : tq_O), Rl r d W H → (∀ q, d q → r q ≠ 310) → Rl r d W (tq_up H 310 o) := fun {r d W} o h hn => by
    obtain ⟨k0, k1, k2, k3, k4, k5⟩ := h
    refine ⟨k0, k1, fun q hq => ?_, k3, fun j hj => ?_, k5⟩
    · obtain ⟨b1, c1, c2⟩ := k2 q hq
      refine ⟨b1, c1, ?_⟩
      show (if r q = 310 then o else H.2 (r q)) = _
      rw [if_neg (hn q hq)]; exact c2
    · show (if j = 310 then o else H.2 j) = _
      have hj : H.1 ≤ j := hj
      rw [if_neg (by omega)]; exact k4 j hj
  refine ⟨tq_up H 310 (.inr (0, (1, .inl (upd f (0 : Int32).toNatClampNeg y)))), ?_, r1, d1, W1, r2, d2, W2, ⟨up _ l1 n2, z1⟩, ⟨up _ l2 n3, z2⟩, hd, i1, i2, hR, ⟨n1, n2, n3⟩, upd f (0 : Int32).toNatClampNeg y, (by
    unfold tq_up
    show (if (310 : Nat) = 310 then _ else H.2 310) = _
    exact if_pos rfl), ?_⟩
  · unfold tq_si
    rw [f1]
    rfl
  · exact upd_s _ _ _
theorem refuses_eq {a2 : Int32} (h : tq_ai H 310 0 = some x) : f_L_refuses 155 310 a2 H = f_G_refuses 155 x a2 H := by
  unfold f_L_refuses f_G_refuses
  simp only [h, Option.bind_some]
/-- what a ghost does -/
theorem g_refuses (hj : j < 10000) (g : GI dk W) : ∃ W', f_G_refuses 0 (nI dk.2.2) (nI j) W = some (1, W') ∧ InvE dk W' := by
  obtain ⟨⟨S, c, D, m, U, P, H, Z, X, nw, ed, nv, vt, mv, Dv, rfl, hC, hF⟩, -⟩ := g
  obtain ⟨c', e, hC', hF'⟩ := refuses_ok hC hF hj
  rw [hC.un] at e
  exact ⟨_, e, InvE.of ⟨hC', hF'⟩⟩
theorem g_tree (hk : dk.2.1 ≤ 1001) (g : GI dk W) : ∃ v W', v = 1 ∧ f_L_isTree 0 W = some (v, W') ∧ InvE dk W' := by
  obtain ⟨⟨S, c, D, m, U, P, H, Z, X, nw, ed, nv, vt, mv, Dv, rfl, hC, hF⟩, -⟩ := g
  exact ⟨1, _, rfl, tree_ok hC hk, InvE.of ⟨hC, hF⟩⟩
theorem g_finds (hk : dk.2.1 ≤ 1001) (g : GI dk W) : ∃ v W', v = 1 ∧ f_L_finds 0 W = some (v, W') ∧ InvE dk W' := by
  obtain ⟨⟨S, c, D, m, U, P, H, Z, X, nw, ed, nv, vt, mv, Dv, rfl, hC, hF⟩, hrl⟩ := g
  obtain ⟨d, e, h⟩ := finds_ok hk (Q := Qr c D P H) ⟨hC, hF, rfl, hrl⟩
  exact ⟨1, _, rfl, e, InvE.of ⟨h.1, h.2.1⟩⟩
theorem PS.tree2 (h : PS dk x H) (hk : dk.2.1 ≤ 1001) : ∃ H', f_L_isTree 155 H = some (1, H') ∧ PS dk x H' := by
  obtain ⟨v, H', rfl, e, h'⟩ := h.act2 (F := fun W => f_L_isTree 0 W) (A := fun t H => f_L_isTree t H) (PV := fun v => v = 1) (fun hE ht => y_L_isTree ht hE) (fun W g => g_tree hk g)
  exact ⟨H', e, h'⟩
theorem PS.finds2 (h : PS dk x H) (hk : dk.2.1 ≤ 1001) : ∃ H', f_L_finds 155 H = some (1, H') ∧ PS dk x H' := by
  obtain ⟨v, H', rfl, e, h'⟩ := h.act2 (F := fun W => f_L_finds 0 W) (A := fun t H => f_L_finds t H) (PV := fun v => v = 1) (fun hE ht => y_L_finds ht hE) (fun W g => g_finds hk g)
  exact ⟨H', e, h'⟩
theorem PS.tree1 (h : PS dk x H) (hk : dk.2.1 ≤ 1001) : ∃ H', f_L_isTree 0 H = some (1, H') ∧ PS dk x H' := by
  obtain ⟨v, H', rfl, e, h'⟩ := h.act1 (F := fun W => f_L_isTree 0 W) (A := fun t H => f_L_isTree t H) (PV := fun v => v = 1) (fun hE ht => y_L_isTree ht hE) (fun W g => g_tree hk g)
  exact ⟨H', e, h'⟩
theorem PS.finds1 (h : PS dk x H) (hk : dk.2.1 ≤ 1001) : ∃ H', f_L_finds 0 H = some (1, H') ∧ PS dk x H' := by
  obtain ⟨v, H', rfl, e, h'⟩ := h.act1 (F := fun W => f_L_finds 0 W) (A := fun t H => f_L_finds t H) (PV := fun v => v = 1) (fun hE ht => y_L_finds ht hE) (fun W g => g_finds hk g)
  exact ⟨H', e, h'⟩
theorem PS.refuses (h : PS dk (nI dk.2.2) H) (hj : j < 10000) : ∃ H', f_L_refuses 155 310 (nI j) H = some (1, H') ∧ PS dk (nI dk.2.2) H' := by
  obtain ⟨v, H', rfl, e, h'⟩ := h.act2 (F := fun W => f_G_refuses 0 (nI dk.2.2) (nI j) W) (A := fun t H => f_G_refuses t (nI dk.2.2) (nI j) H) (PV := fun v => v = 1) (fun hE ht => y_G_refuses trivial ht hE) (fun W g => by
    obtain ⟨W', a, b⟩ := g_refuses hj g
    exact ⟨1, W', rfl, a, b⟩)
  refine ⟨H', ?_, h'⟩
  rw [refuses_eq h.ai]
  exact e
/-- what the script draws -/
theorem and_pos (p : Int32) : ¬ (p &&& 2147483647) < 0 := by
  rw [Int32.lt_iff_toInt_lt]
  have m : (p.toBitVec &&& (2147483647 : Int32).toBitVec).msb = false := by
    rw [BitVec.msb_and, show ((2147483647 : Int32).toBitVec).msb = false by decide, Bool.and_false]
  rw [BitVec.msb_eq_toInt] at m
  have := of_decide_eq_false m
  rw [show (0 : Int32).toInt = 0 by decide]
  exact this
theorem drawn_ok (hn : sn < 2 ^ 31) (hj : j < 2 ^ 31) : ∃ t, t < 2 ^ 31 ∧ f_L_drawn sn xs (nI j) = some (nI t) := by
  unfold f_L_drawn
  by_cases q : nI j ≥ Int32.ofNat sn
  · rw [if_pos q, Option.bind_some]
    obtain ⟨t, t1, t2⟩ := nI_of (and_pos (((15526249 : Int32) * (nI j + (3 : Int32))) + (14249 : Int32)))
    exact ⟨t, t1, by rw [t2]⟩
  · rw [if_neg q]
    have lt : j < sn := (nI_ltI hj hn).mp (Int32.not_le.mp q)
    have e : tq_sx sn xs (nI j) = some (xs j) := by
      unfold tq_sx
      rw [if_neg, nI_clamp hj]
      rintro (z | z)
      · exact nI_neg1 hj z
      · rw [nI_clamp hj] at z; omega
    rw [e, Option.bind_some, Option.bind_some]
    obtain ⟨t, t1, t2⟩ := nI_of (and_pos (xs j))
    exact ⟨t, t1, by rw [t2]⟩
/-- n behind an act -/
theorem n_ok {z v : Int32} {un u : Nat} (hz : ∃ k, k < 24 ∧ z = nI k) (hu : u ≤ 20) (h : PKx un z v u) (hr : tq_ai H 310 0 = some (nI un)) :
    (if z ≥ (9 : Int32) then if z ≤ (8 : Int32) then (tq_ai H 310 (0 : Int32)).bind fun x14 => some x14 else if z ≥ (13 : Int32) then (tq_ai H 310 (0 : Int32)).bind fun x15 => some x15 else some (0 : Int32)
      else if v ≤ 0 then if z ≤ (8 : Int32) then (tq_ai H 310 (0 : Int32)).bind fun x16 => some x16 else if z ≥ (13 : Int32) then (tq_ai H 310 (0 : Int32)).bind fun x17 => some x17 else some (0 : Int32)
      else some v) = some (nI u) := by
  obtain ⟨k, hk, rfl⟩ := hz
  obtain ⟨p1, p2, p3⟩ := h
  rw [hr]
  rcases Nat.lt_or_ge k 9 with a | a
  · have q1 : ¬ nI k ≥ (9 : Int32) := nI_ge (b := 9) a (by decide)
    have q2 : nI k ≤ (8 : Int32) := nI_le (show k ≤ 8 by omega) (by decide)
    rw [if_neg q1]
    rcases p1 (nI_lt a (by decide)) with ⟨b1, b2⟩ | ⟨b1, b2⟩
    · rw [if_pos (Int32.le_of_lt b2), if_pos q2, b1]; rfl
    · have q3 : ¬ v ≤ 0 := by rw [b2]; exact nI_nle (show 0 < u by omega) (by omega)
      rw [if_neg q3, b2]
  · have q1 : nI k ≥ (9 : Int32) := nI_le (show 9 ≤ k by omega) (by omega)
    have q2 : ¬ nI k ≤ (8 : Int32) := nI_ge (show 8 < k by omega) (by omega)
    rw [if_pos q1, if_neg q2]
    rcases Nat.lt_or_ge k 13 with b | b
    · have q3 : ¬ nI k ≥ (13 : Int32) := nI_ge (b := 13) b (by decide)
      rw [if_neg q3, p2 q1 (nI_lt b (by decide))]; rfl
    · have q3 : nI k ≥ (13 : Int32) := nI_le (show 13 ≤ k by omega) (by omega)
      rw [if_pos q3, p3 q3]; rfl
theorem PS.u20 (h : PS dk x H) : dk.2.2 ≤ 20 := by
  obtain ⟨r1, d1, W1, r2, d2, W2, -, -, -, i1, -⟩ := h
  exact i1.u15.2
theorem law_a1 (hj : j < 1000) (z24 : nI t - nI t / (24 : Int32) * (24 : Int32) = nI (t % 24)) : ∀ W, GI (dist, j, u) W → Op (dist, j, u) (j + 1) (PKx u (nI t - nI t / (24 : Int32) * (24 : Int32))) (fun a H => f_L_act a (nI t) H) W := fun W g => op_act g (Nat.le_of_lt hj) ⟨t % 24, Nat.mod_lt _ (by decide), z24⟩
theorem law_a2 : t % 9973 < 10000 → ∀ W, GI (dist, j, u) W → ∃ W', f_G_refuses 0 (nI u) (nI (t % 9973)) W = some (1, W') ∧ InvE (dist, j, u) W' := fun ht W g => g_refuses (dk := (dist, j, u)) (j := t % 9973) ht g
theorem law_a3 : t % 9973 < 10000 := by omega
theorem law_a4 : ∀ {r : Nat → Nat} {d : Nat → Prop} {W0 H0 W H : tq_H}, Em r d W0 H0 True W H → Rr r d 0 (r 0) → Sm (Rp Eq (Em r d W0 H0 True)) (f_G_refuses 0 (nI u) (nI (t % 9973)) W) (f_G_refuses (r 0) (nI u) (nI (t % 9973)) H) := fun hE ht => y_G_refuses trivial ht hE
theorem law_a5 (h : PS (dist, j, u) (nI u) H) (ga : ∀ W, GI (dist, j, u) W → Op (dist, j, u) (j + 1) (PKx u (nI t - nI t / (24 : Int32) * (24 : Int32))) (fun a H => f_L_act a (nI t) H) W) (gr : ∀ W, GI (dist, j, u) W → ∃ W', f_G_refuses 0 (nI u) (nI (t % 9973)) W = some (1, W') ∧ InvE (dist, j, u) W') (gy : ∀ {r : Nat → Nat} {d : Nat → Prop} {W0 H0 W H : tq_H}, Em r d W0 H0 True W H → Rr r d 0 (r 0) → Sm (Rp Eq (Em r d W0 H0 True)) (f_G_refuses 0 (nI u) (nI (t % 9973)) W) (f_G_refuses (r 0) (nI u) (nI (t % 9973)) H)) : ∃ v u' H1 H2 H3, (PKx u (nI t - nI t / (24 : Int32) * (24 : Int32))) v u' ∧ f_L_act 0 (nI t) H = some (v, H1) ∧ (∃ f : Nat → Int32, H1.2 310 = .inr (0, (1, .inl f)) ∧ f 0 = nI u) ∧ f_G_refuses 155 (nI u) (nI (t % 9973)) H1 = some (1, H2) ∧ f_L_act 155 (nI t) H2 = some (v, H3) ∧ PS (dist, j + 1, u') (nI u) H3 := PS.act (A := fun a H => f_L_act a (nI t) H) (B := fun a H => f_G_refuses a (nI u) (nI (t % 9973)) H) (F := fun W => f_G_refuses 0 (nI u) (nI (t % 9973)) W) (wv := 1) h ga gy gr
theorem law_a6 {f : Nat → Int32} (h1 : H.2 310 = .inr (0, (1, .inl f))) (h2 : f 0 = nI u) {y : Int32} {o : Option (Int32 × tq_H)} (e : f_G_refuses 155 (nI u) y H = o) : f_L_refuses 155 310 y H = o := by
  have ea : tq_ai H 310 0 = some (nI u) := (ai_310 h1).trans (congrArg some h2)
  exact (refuses_eq ea).trans e
/-- an act in a round of the law -/
theorem law_act (h : PS (dist, j, u) (nI u) H) (hj : j < 1000) (z24 : nI t - nI t / (24 : Int32) * (24 : Int32) = nI (t % 24)) : ∃ v u' H1 H2 H3, PKx u (nI t - nI t / (24 : Int32) * (24 : Int32)) v u' ∧ f_L_act 0 (nI t) H = some (v, H1) ∧ f_L_refuses 155 310 (nI (t % 9973)) H1 = some (1, H2) ∧ f_L_act 155 (nI t) H2 = some (v, H3) ∧ PS (dist, j + 1, u') (nI u) H3 := by
  obtain ⟨v, u', H1, H2, H3, pk, e1, ⟨f, f1, f2⟩, e2, e3, h3⟩ := law_a5 (t := t) h (law_a1 hj z24) (law_a2 law_a3) law_a4
  exact ⟨v, u', H1, H2, H3, pk, e1, law_a6 f1 f2 e2, e3, h3⟩
set_option maxHeartbeats 8000000 in
/-- a round of the law -/
theorem law_step (h : PS (dist, j, u) (nI u) H) (hj : j < T) (hT : T ≤ 50) (hn : sn < 2 ^ 31) : ∃ H' u', f_L_law_b39 sn xs 0 155 310 (nI T) ((1 : Int32), nI j, H) = some (.inl ((1 : Int32), nI (j + 1), H')) ∧ PS (dist, j + 1, u') (nI u') H' := by
  have n10 : ¬ (1 : Int32) = 0 := by decide
  have q0 : ¬ nI j ≥ nI T := nI_ge hj (by omega)
  obtain ⟨t, t31, hd⟩ := drawn_ok (sn := sn) (xs := xs) (j := 1 + j) hn (by omega)
  have a1 : (1 : Int32) + nI j = nI (1 + j) := nI_add 1 j
  rw [← a1] at hd
  have z24 : nI t - nI t / (24 : Int32) * (24 : Int32) = nI (t % 24) := nmod (d := 24) t31 (by omega) (by omega)
  have z99 : nI t - nI t / (9973 : Int32) * (9973 : Int32) = nI (t % 9973) := nmod (d := 9973) t31 (by omega) (by omega)
  have z49 : nI t - nI t / (499 : Int32) * (499 : Int32) = nI (t % 499) := nmod (d := 499) t31 (by omega) (by omega)
  have x1 : nI j + 1 = nI (j + 1) := nI_1 j
  obtain ⟨v, u', H1, H2, H3, pk, e1, e2, e3, h3⟩ := law_act h (by omega) z24
  rw [← z99] at e2
  rw [z24] at pk
  have hu20 : u' ≤ 20 := h3.u20
  have en := n_ok ⟨t % 24, Nat.mod_lt _ (by decide), rfl⟩ hu20 pk h3.ai
  obtain ⟨H4, e4, h4⟩ := h3.si (nI u')
  have hk : (dist, j + 1, u').2.1 ≤ 1001 := show j + 1 ≤ 1001 by omega
  by_cases q3 : (nI j - nI j / (3 : Int32) * (3 : Int32)) > 0
  · by_cases q2 : (nI j - nI j / (2 : Int32) * (2 : Int32)) > 0
    · by_cases q4 : (nI j - nI j / (4 : Int32) * (4 : Int32)) > 0
      · refine ⟨H4, u', ?_, h4⟩
        unfold f_L_law_b39
        refine st_n q0 ?_
        refine st_n n10 ?_
        refine st_b hd ?_
        refine st_b e1 ?_
        refine st_b e2 ?_
        refine st_b (v := ((1 : Int32), H3)) ?_ ?_
        · refine st_n n10 ?_
          refine st_b e3 ?_
          refine st_y rfl ?_
          rfl
        refine st_t z24 ?_
        refine st_b en ?_
        refine st_b e4 ?_
        refine st_b (v := ((1 : Int32), H4)) ?_ ?_
        · refine st_n n10 ?_
          refine st_y q3 ?_
          refine st_y q2 ?_
          refine st_y q4 ?_
          rfl
        refine st_t x1 ?_
        rfl
      · obtain ⟨H5, e5, h5⟩ := h4.tree2 hk
        obtain ⟨H6, e6, h6⟩ := h5.finds2 hk
        refine ⟨H6, u', ?_, h6⟩
        unfold f_L_law_b39
        refine st_n q0 ?_
        refine st_n n10 ?_
        refine st_b hd ?_
        refine st_b e1 ?_
        refine st_b e2 ?_
        refine st_b (v := ((1 : Int32), H3)) ?_ ?_
        · refine st_n n10 ?_
          refine st_b e3 ?_
          refine st_y rfl ?_
          rfl
        refine st_t z24 ?_
        refine st_b en ?_
        refine st_b e4 ?_
        refine st_b (v := ((1 : Int32), H6)) ?_ ?_
        · refine st_n n10 ?_
          refine st_y q3 ?_
          refine st_y q2 ?_
          refine st_n q4 ?_
          refine st_b e5 ?_
          refine st_n n10 ?_
          refine st_b e6 ?_
          refine st_n n10 ?_
          rfl
        refine st_t x1 ?_
        rfl
    · obtain ⟨H5, e5, h5⟩ := alike_ok (a2 := nI t / (3 : Int32)) h4
      by_cases q4 : (nI j - nI j / (4 : Int32) * (4 : Int32)) > 0
      · refine ⟨H5, u', ?_, h5⟩
        unfold f_L_law_b39
        refine st_n q0 ?_
        refine st_n n10 ?_
        refine st_b hd ?_
        refine st_b e1 ?_
        refine st_b e2 ?_
        refine st_b (v := ((1 : Int32), H3)) ?_ ?_
        · refine st_n n10 ?_
          refine st_b e3 ?_
          refine st_y rfl ?_
          rfl
        refine st_t z24 ?_
        refine st_b en ?_
        refine st_b e4 ?_
        refine st_b (v := ((1 : Int32), H5)) ?_ ?_
        · refine st_n n10 ?_
          refine st_y q3 ?_
          refine st_n q2 ?_
          refine st_b e5 ?_
          refine st_n n10 ?_
          refine st_y q4 ?_
          rfl
        refine st_t x1 ?_
        rfl
      · obtain ⟨H6, e6, h6⟩ := h5.tree2 hk
        obtain ⟨H7, e7, h7⟩ := h6.finds2 hk
        refine ⟨H7, u', ?_, h7⟩
        unfold f_L_law_b39
        refine st_n q0 ?_
        refine st_n n10 ?_
        refine st_b hd ?_
        refine st_b e1 ?_
        refine st_b e2 ?_
        refine st_b (v := ((1 : Int32), H3)) ?_ ?_
        · refine st_n n10 ?_
          refine st_b e3 ?_
          refine st_y rfl ?_
          rfl
        refine st_t z24 ?_
        refine st_b en ?_
        refine st_b e4 ?_
        refine st_b (v := ((1 : Int32), H7)) ?_ ?_
        · refine st_n n10 ?_
          refine st_y q3 ?_
          refine st_n q2 ?_
          refine st_b e5 ?_
          refine st_n n10 ?_
          refine st_n q4 ?_
          refine st_b e6 ?_
          refine st_n n10 ?_
          refine st_b e7 ?_
          refine st_n n10 ?_
          rfl
        refine st_t x1 ?_
        rfl
  · obtain ⟨H5, e5, h5⟩ := h4.refuses (j := t % 499) (by omega)
    have h5 : PS (dist, j + 1, u') (nI u') H5 := h5
    have e5 : f_L_refuses 155 310 (nI t - nI t / (499 : Int32) * (499 : Int32)) H4 = some (1, H5) := by
      rw [z49]
      exact e5
    by_cases q2 : (nI j - nI j / (2 : Int32) * (2 : Int32)) > 0
    · by_cases q4 : (nI j - nI j / (4 : Int32) * (4 : Int32)) > 0
      · refine ⟨H5, u', ?_, h5⟩
        unfold f_L_law_b39
        refine st_n q0 ?_
        refine st_n n10 ?_
        refine st_b hd ?_
        refine st_b e1 ?_
        refine st_b e2 ?_
        refine st_b (v := ((1 : Int32), H3)) ?_ ?_
        · refine st_n n10 ?_
          refine st_b e3 ?_
          refine st_y rfl ?_
          rfl
        refine st_t z24 ?_
        refine st_b en ?_
        refine st_b e4 ?_
        refine st_b (v := ((1 : Int32), H5)) ?_ ?_
        · refine st_n n10 ?_
          refine st_n q3 ?_
          refine st_b e5 ?_
          refine st_n n10 ?_
          refine st_y q2 ?_
          refine st_y q4 ?_
          rfl
        refine st_t x1 ?_
        rfl
      · obtain ⟨H6, e6, h6⟩ := h5.tree2 hk
        obtain ⟨H7, e7, h7⟩ := h6.finds2 hk
        refine ⟨H7, u', ?_, h7⟩
        unfold f_L_law_b39
        refine st_n q0 ?_
        refine st_n n10 ?_
        refine st_b hd ?_
        refine st_b e1 ?_
        refine st_b e2 ?_
        refine st_b (v := ((1 : Int32), H3)) ?_ ?_
        · refine st_n n10 ?_
          refine st_b e3 ?_
          refine st_y rfl ?_
          rfl
        refine st_t z24 ?_
        refine st_b en ?_
        refine st_b e4 ?_
        refine st_b (v := ((1 : Int32), H7)) ?_ ?_
        · refine st_n n10 ?_
          refine st_n q3 ?_
          refine st_b e5 ?_
          refine st_n n10 ?_
          refine st_y q2 ?_
          refine st_n q4 ?_
          refine st_b e6 ?_
          refine st_n n10 ?_
          refine st_b e7 ?_
          refine st_n n10 ?_
          rfl
        refine st_t x1 ?_
        rfl
    · obtain ⟨H6, e6, h6⟩ := alike_ok (a2 := nI t / (3 : Int32)) h5
      by_cases q4 : (nI j - nI j / (4 : Int32) * (4 : Int32)) > 0
      · refine ⟨H6, u', ?_, h6⟩
        unfold f_L_law_b39
        refine st_n q0 ?_
        refine st_n n10 ?_
        refine st_b hd ?_
        refine st_b e1 ?_
        refine st_b e2 ?_
        refine st_b (v := ((1 : Int32), H3)) ?_ ?_
        · refine st_n n10 ?_
          refine st_b e3 ?_
          refine st_y rfl ?_
          rfl
        refine st_t z24 ?_
        refine st_b en ?_
        refine st_b e4 ?_
        refine st_b (v := ((1 : Int32), H6)) ?_ ?_
        · refine st_n n10 ?_
          refine st_n q3 ?_
          refine st_b e5 ?_
          refine st_n n10 ?_
          refine st_n q2 ?_
          refine st_b e6 ?_
          refine st_n n10 ?_
          refine st_y q4 ?_
          rfl
        refine st_t x1 ?_
        rfl
      · obtain ⟨H7, e7, h7⟩ := h6.tree2 hk
        obtain ⟨H8, e8, h8⟩ := h7.finds2 hk
        refine ⟨H8, u', ?_, h8⟩
        unfold f_L_law_b39
        refine st_n q0 ?_
        refine st_n n10 ?_
        refine st_b hd ?_
        refine st_b e1 ?_
        refine st_b e2 ?_
        refine st_b (v := ((1 : Int32), H3)) ?_ ?_
        · refine st_n n10 ?_
          refine st_b e3 ?_
          refine st_y rfl ?_
          rfl
        refine st_t z24 ?_
        refine st_b en ?_
        refine st_b e4 ?_
        refine st_b (v := ((1 : Int32), H8)) ?_ ?_
        · refine st_n n10 ?_
          refine st_n q3 ?_
          refine st_b e5 ?_
          refine st_n n10 ?_
          refine st_n q2 ?_
          refine st_b e6 ?_
          refine st_n n10 ?_
          refine st_n q4 ?_
          refine st_b e7 ?_
          refine st_n n10 ?_
          refine st_b e8 ?_
          refine st_n n10 ?_
          rfl
        refine st_t x1 ?_
        rfl
theorem law_rounds (hT : T ≤ 50) (hn : sn < 2 ^ 31) : ∀ (k j u : Nat) (H : tq_H), PS (dist, j, u) (nI u) H → T ≤ j + k → j ≤ T → ∃ H' u', tq_loop (f_L_law_b39 sn xs 0 155 310 (nI T)) (k + 1) ((1 : Int32), nI j, H) = some ((1 : Int32), H') ∧ PS (dist, T, u') (nI u') H' := by
  intro k
  induction k with
  | zero =>
    intro j u H h h1 h2
    have e : j = T := by omega
    subst e
    have q : nI j ≥ nI j := Int32.le_refl _
    refine ⟨H, u, ?_, h⟩
    simp only [tq_loop, f_L_law_b39, q, if_true]
  | succ k ih =>
    intro j u H h h1 h2
    rcases Nat.lt_or_ge j T with y | y
    · obtain ⟨H1, u1, e1, p1⟩ := law_step (sn := sn) (xs := xs) h y hT hn
      obtain ⟨H2, u2, e2, p2⟩ := ih (j + 1) u1 H1 p1 (by omega) (by omega)
      refine ⟨H2, u2, ?_, p2⟩
      rw [tq_loop, e1]
      exact e2
    · have e : j = T := by omega
      subst e
      have q : nI j ≥ nI j := Int32.le_refl _
      refine ⟨H, u, ?_, h⟩
      rw [tq_loop]
      simp only [f_L_law_b39, q, if_true]
end LAW
