/-! ===== calls on stores that lie in one heap ===== -/
section TW2
variable {dk : DI} {k' u : Nat} {G : tq_H → Option (Int32 × tq_H)} {G' : Nat → tq_H → Option (Int32 × tq_H)} {R : tq_H → Option (Int32 × tq_H)}
/-- calls that throw nothing -/
theorem twin2 (yG : ∀ {r : Nat → Nat} {d : Nat → Prop} {W0 H0 W H : tq_H}, Em r d W0 H0 True W H → Rr r d 0 (r 0) → Sm (Rp Eq (Em r d W0 H0 True)) (G W) (G' (r 0) H))
    (yR : ∀ {W0 H0 W H : tq_H}, Em id dr W0 H0 False W H → Rr id dr 155 155 → Sm (Rp Eq (Em id dr W0 H0 False)) (R W) (R H))
    (arm : ∀ W, InvE dk W → ∃ v Wa W', G W = some (v, Wa) ∧ R Wa = some (v, W') ∧ InvE (dk.1, k', u) W') {W1 : tq_H} (g1 : GI dk W1) : Twin dk k' (fun _ w => w = u) G W1 := by
  have one : ∀ W, GI dk W → ∃ v Wa W', G W = some (v, Wa) ∧ R Wa = some (v, W') ∧ InvE (dk.1, k', u) W' ∧ (∀ q, 155 ≤ q → q ≤ 204 → Wa.2 q = W.2 q) ∧ (∀ q, dr q → oko dr (Wa.2 q) ∧ mo id (Wa.2 q) = Wa.2 q) ∧ St Wa W' := by
    intro W ⟨hi, r, d, H, hr⟩
    obtain ⟨v, Wa, W', e1, e2, hi'⟩ := arm W hi
    obtain ⟨⟨r2, H2⟩, -, -, hem2⟩ := yG hr.em ⟨Or.inl hr.1, rfl⟩ _ e1
    obtain ⟨-, f2, -, -⟩ := Em.off hr hem2
    have fa : ∀ q, 155 ≤ q → q ≤ 204 → Wa.2 q = W.2 q := fun q h1 h2 => f2 q h1 (by omega)
    have ra : ∀ q, dr q → oko dr (Wa.2 q) ∧ mo id (Wa.2 q) = Wa.2 q := fun q hq => by
      rw [fa q hq.1 hq.2]; exact hi.mod q hq
    have hrr := Rf2.em (W1 := Wa) (W2 := Wa) ra (fun _ _ _ => rfl)
    obtain ⟨⟨a2, W2⟩, z1, z2, z3⟩ := yR hrr ⟨by decide, rfl⟩ _ e2
    obtain ⟨-, -, m3, -, -, -, -, m8⟩ := z3
    exact ⟨v, Wa, W', e1, e2, hi', fa, ra, m8 id, fun q hq => m3 q (by omega)⟩
  obtain ⟨v1, Wa1, W1', x1, x2, x3, x4, x5, x6⟩ := one W1 g1
  refine ⟨v1, u, Wa1, W1', rfl, x1, x6, x3, fun W2 g2 hR => ?_⟩
  obtain ⟨v2, Wa2, W2', z1, z2, z3, z4, z5, z6⟩ := one W2 g2
  have hRa : Rf2 Wa1 Wa2 := fun q h1 h2 => (x4 q h1 h2).trans ((hR q h1 h2).trans (z4 q h1 h2).symm)
  obtain ⟨⟨a3, W3⟩, w1, w2, w3⟩ := yR (Rf2.em x5 hRa) ⟨by decide, rfl⟩ _ x2
  rw [z2] at w1
  cases w1
  have w2 : v1 = v2 := w2
  subst w2
  refine ⟨Wa2, W2', z1, z6, z3, fun q h1 h2 => ?_⟩
  have := (w3.2.1 q ⟨h1, h2⟩).2
  rw [(x3.mod q ⟨h1, h2⟩).2] at this
  exact this.symm
theorem tw_forget {W : tq_H} (g : GI dk W) : Twin dk dk.2.1 (fun _ w => w = 0) (fun W => f_X10_forget 0 W) W := by
  refine twin2 (G := fun W => f_X10_forget 0 W) (G' := fun t H => f_X10_forget t H) (R := fun W => f_X11_forget 155 W) (fun hE ht => y_X10_forget ht hE) (fun hE ht => y_X11_forget ht hE) (fun W h => ?_) g
  obtain ⟨W', e, i⟩ := arm_forget (n := 5) (xs := x5 0 0 0 0) (y4 := 0) h
  unfold f_V_law_c896 at e
  obtain ⟨_, e1, e⟩ := tq_be e
  obtain ⟨⟨v, Wa⟩, e2, e⟩ := tq_be e
  obtain ⟨_, e3, e⟩ := tq_be e
  obtain ⟨⟨v', Wc⟩, e4, e⟩ := tq_be e
  dsimp only at e4 e
  split at e
  · rename_i hv
    subst hv
    unfold tq_let at e
    cases (Sum.inl.inj (Option.some.inj e))
    exact ⟨_, Wa, _, e2, e4, i⟩
  · cases e
theorem tw_isValid {W : tq_H} (g : GI dk W) : Twin dk dk.2.1 (fun _ w => w = dk.2.2) (fun W => f_X10_isValid 0 W) W := by
  refine twin2 (G := fun W => f_X10_isValid 0 W) (G' := fun t H => f_X10_isValid t H) (R := fun W => f_X11_isValid 155 W) (fun hE ht => y_X10_isValid ht hE) (fun hE ht => y_X11_isValid ht hE) (fun W h => ?_) g
  obtain ⟨W', e, i⟩ := arm_isValid (n := 5) (xs := x5 0 0 0 0) (y4 := 0) h
  unfold f_V_law_c2739 at e
  obtain ⟨_, e1, e⟩ := tq_be e
  obtain ⟨⟨v, Wa⟩, e2, e⟩ := tq_be e
  obtain ⟨_, e3, e⟩ := tq_be e
  obtain ⟨⟨v', Wc⟩, e4, e⟩ := tq_be e
  dsimp only at e4 e
  split at e
  · rename_i hv
    subst hv
    unfold tq_let at e
    cases (Sum.inl.inj (Option.some.inj e))
    exact ⟨_, Wa, _, e2, e4, i⟩
  · cases e
theorem tw_reader {x1 : Int32} {W : tq_H} (g : GI dk W) (hb : x1 = 0 ∨ x1 = 1) : Twin dk dk.2.1 (fun _ w => w = dk.2.2) (fun W => f_X10_readAsReader 0 x1 W) W := by
  refine twin2 (G := fun W => f_X10_readAsReader 0 x1 W) (G' := fun t H => f_X10_readAsReader t x1 H) (R := fun W => f_X11_readAsReader 155 x1 W) (fun hE ht => y_X10_readAsReader ht hE) (fun hE ht => y_X11_readAsReader ht hE) (fun W h => ?_) g
  obtain ⟨W', e, i⟩ := arm_reader (n := 5) (xs := x5 x1 0 0 0) (y4 := 0) h (sx1 x1 0 0 0)
  have hz : (if x1 = 0 then (0 : Int32) else 1) = x1 := by rcases hb with rfl | rfl <;> rfl
  unfold f_V_law_c1850 at e
  rw [sx1 x1 0 0 0] at e
  simp only [Option.bind_some, tq_let, hz] at e
  obtain ⟨_, e1, e⟩ := tq_be e
  obtain ⟨⟨v, Wa⟩, e2, e⟩ := tq_be e
  obtain ⟨_, e3, e⟩ := tq_be e
  obtain ⟨⟨v', Wc⟩, e4, e⟩ := tq_be e
  dsimp only at e4 e
  split at e
  · rename_i hv
    subst hv
    cases (Sum.inl.inj (Option.some.inj e))
    exact ⟨_, Wa, _, e2, e4, i⟩
  · cases e
end TW2
/-- what a call leaves of the heap outside its store -/
def Kpt (r : Nat → Nat) (d : Nat → Prop) (H : tq_H) (r' : Nat → Nat) (d' : Nat → Prop) (H' : tq_H) : Prop :=
  r' 0 = r 0 ∧ H.1 ≤ H'.1 ∧ (∀ j, j < H.1 → (∀ q, d q → r q ≠ j) → H'.2 j = H.2 j) ∧ ∀ q, d' q → (d q ∧ r' q = r q) ∨ H.1 ≤ r' q
/-- a call in every heap where the store lies -/
def Run (A : Nat → tq_H → Option (Int32 × tq_H)) (v : Int32) (W W' : tq_H) : Prop :=
  ∀ r d H, Rl r d W H → ∃ r' d' H', A (r 0) H = some (v, H') ∧ Rl r' d' W' H' ∧ Kpt r d H r' d' H'
/-- alike in all stores with the same reference -/
def Op (dk : DI) (k' : Nat) (PK : Int32 → Nat → Prop) (A : Nat → tq_H → Option (Int32 × tq_H)) (W1 : tq_H) : Prop :=
  ∃ v u W1', PK v u ∧ InvE (dk.1, k', u) W1' ∧ Run A v W1 W1' ∧ ∀ W2, GI dk W2 → Rf2 W1 W2 → ∃ W2', InvE (dk.1, k', u) W2' ∧ Rf2 W1' W2' ∧ Run A v W2 W2'
section OPS
variable {dk dk' : DI} {k' k2 : Nat} {PK PK2 : Int32 → Nat → Prop} {A A' : Nat → tq_H → Option (Int32 × tq_H)} {B : Int32 → Nat → tq_H → Option (Int32 × tq_H)} {F : tq_H → Option (Int32 × tq_H)} {W W' Wb W1 W2 W3 H H' H1 H2 : tq_H} {v w : Int32} {r r' r1 r2 : Nat → Nat} {d d' d1 d2 : Nat → Prop}
theorem Kpt.refl (r : Nat → Nat) (d : Nat → Prop) (H : tq_H) : Kpt r d H r d H := ⟨rfl, Nat.le_refl _, fun _ _ _ => rfl, fun _ h => Or.inl ⟨h, rfl⟩⟩
theorem Kpt.trans (a : Kpt r d H r1 d1 H1) (b : Kpt r1 d1 H1 r2 d2 H2) : Kpt r d H r2 d2 H2 := by
  obtain ⟨a1, a2, a3, a4⟩ := a
  obtain ⟨b1, b2, b3, b4⟩ := b
  refine ⟨b1.trans a1, Nat.le_trans a2 b2, fun j hj hq => ?_, fun q hq => ?_⟩
  · refine (b3 j (Nat.lt_of_lt_of_le hj a2) fun q hq' z => ?_).trans (a3 j hj hq)
    rcases a4 q hq' with ⟨x, y⟩ | x
    · exact hq q x (y.symm.trans z)
    · omega
  · rcases b4 q hq with ⟨x, y⟩ | x
    · rcases a4 q x with ⟨s, t⟩ | s
      · exact Or.inl ⟨s, y.trans t⟩
      · exact Or.inr (by omega)
    · exact Or.inr (Nat.le_trans a2 x)
/-- another store is left alone -/
theorem Kpt.other (k : Kpt r d H r' d' H') (h' : Rl r' d' W' H') (h2 : Rl r2 d2 W2 H) (hd : ∀ q q', d q → d2 q' → r q ≠ r2 q') : Rl r2 d2 W2 H' ∧ ∀ q q', d' q → d2 q' → r' q ≠ r2 q' := by
  obtain ⟨a1, a2, a3, a4⟩ := k
  obtain ⟨k0, k1, k2, k3, k4, k5⟩ := h2
  refine ⟨⟨k0, k1, fun q hq => ?_, k3, h'.2.2.2.2.1, k5⟩, fun q q' hq hq' z => ?_⟩
  · obtain ⟨⟨b1, b2, b3⟩, c1, c2⟩ := k2 q hq
    refine ⟨⟨b1, by omega, b3⟩, c1, ?_⟩
    rw [a3 (r2 q) b2 (fun q' hq' z => hd q' q hq' hq z), c2]
  · rcases a4 q hq with ⟨x, y⟩ | x
    · exact hd q q' x hq' (y.symm.trans z)
    · have := (k2 q' hq').1.2.1
      omega
theorem InvE.cl (h : InvE dk W) : ∃ D : Nat → Prop, D 0 ∧ ∀ q, D q → (q < W.1 ∧ (q < 155 ∨ 206 ≤ q)) ∧ oko D (W.2 q) := by
  obtain ⟨S, c, D, m, U, P, H, Z, X, nw, ed, nv, vt, mv, Dv, rfl, hC, hF⟩ := h
  exact ⟨Dw ed nv vt, Or.inl (by omega), hC.closed⟩
/-- a ghost's call is a call in every heap -/
theorem run_of (yF : ∀ {r : Nat → Nat} {d : Nat → Prop} {W0 H0 W H : tq_H}, Em r d W0 H0 True W H → Rr r d 0 (r 0) → Sm (Rp Eq (Em r d W0 H0 True)) (F W) (A (r 0) H))
    (e : F W = some (v, Wb)) (s : St Wb W') (i : InvE dk' W') : Run A v W W' := by
  intro r d H h
  obtain ⟨⟨v', H'⟩, e1, e2, e3⟩ := yF h.em ⟨Or.inl h.1, rfl⟩ _ e
  have e2 : v = v' := e2
  subst e2
  have h206 := h.2.2.2.2.2
  rw [rN_lt (by omega)] at e1
  obtain ⟨D, D0, hD⟩ := i.cl
  have hb := h.back e3 D0 (fun q hq => by
    obtain ⟨⟨b1, b2⟩, b3⟩ := hD q hq
    rw [s.1] at b1
    rw [s.2 q b2] at b3
    exact ⟨⟨b1, b2⟩, b3⟩)
  obtain ⟨o1, -, o3, -⟩ := Em.off h e3
  refine ⟨_, _, H', e1, hb.ghost s.1 s.2, rN_lt (by omega), o3, o1, fun q hq => ?_⟩
  rcases hq.1 with z | z
  · exact Or.inl ⟨z, rN_lt (h.2.2.1 q z).1.1⟩
  · right
    rw [rN_ge z]
    omega
theorem op_of (yF : ∀ {r : Nat → Nat} {d : Nat → Prop} {W0 H0 W H : tq_H}, Em r d W0 H0 True W H → Rr r d 0 (r 0) → Sm (Rp Eq (Em r d W0 H0 True)) (F W) (A (r 0) H))
    (t : Twin dk k' PK F W1) : Op dk k' PK A W1 := by
  obtain ⟨v, u, Wb1, W1', p, e, s, i, f⟩ := t
  refine ⟨v, u, W1', p, i, run_of yF e s i, fun W2 g2 hR => ?_⟩
  obtain ⟨Wb2, W2', a1, a2, a3, a4⟩ := f W2 g2 hR
  exact ⟨W2', a3, a4, run_of yF a1 a2 a3⟩
theorem Run.gi (a : Run A v W W') (g : GI dk W) (i : InvE dk' W') : GI dk' W' := by
  obtain ⟨-, r, d, H, h⟩ := g
  obtain ⟨r', d', H', -, h', -⟩ := a r d H h
  exact ⟨i, r', d', H', h'⟩
theorem Run.bind (a : Run A v W W1) (b : Run (B v) w W1 W2) : Run (fun a H => (A a H).bind fun o => B o.1 a o.2) w W W2 := by
  intro r d H h
  obtain ⟨r1, d1, H1, e1, h1, k1⟩ := a r d H h
  obtain ⟨r2, d2, H2, e2, h2, k2⟩ := b r1 d1 H1 h1
  refine ⟨r2, d2, H2, ?_, h2, k1.trans k2⟩
  show (A (r 0) H).bind _ = _
  rw [e1, Option.bind_some, ← k1.1]
  exact e2
theorem Op.bind (a : Op dk k' PK A W1) (b : ∀ v u W, PK v u → GI (dk.1, k', u) W → Op (dk.1, k', u) k2 PK2 (B v) W) (g1 : GI dk W1) : Op dk k2 PK2 (fun a H => (A a H).bind fun o => B o.1 a o.2) W1 := by
  obtain ⟨v, u, W1', p, i, r1, f⟩ := a
  obtain ⟨w, u2, W1'', p2, i2, r2, f2⟩ := b v u W1' p (r1.gi g1 i)
  refine ⟨w, u2, W1'', p2, i2, r1.bind r2, fun W2 g2 hR => ?_⟩
  obtain ⟨W2', j1, j2, j3⟩ := f W2 g2 hR
  obtain ⟨W2'', l1, l2, l3⟩ := f2 W2' (j3.gi g2 j1) j2
  exact ⟨W2'', l1, l2, j3.bind l3⟩
theorem Op.ret (g : GI dk W1) (p : PK v dk.2.2) : Op dk dk.2.1 PK (fun _ H => some (v, H)) W1 :=
  ⟨v, dk.2.2, W1, p, g.1, fun r d H h => ⟨r, d, H, rfl, h, Kpt.refl r d H⟩, fun W2 g2 hR => ⟨W2, g2.1, hR, fun r d H h => ⟨r, d, H, rfl, h, Kpt.refl r d H⟩⟩⟩
theorem Rf2.refl (W : tq_H) : Rf2 W W := fun _ _ _ => rfl
theorem Op.cg (e : ∀ W, GI dk W → Rf2 W1 W → ∀ r d H, Rl r d W H → A (r 0) H = A' (r 0) H) (g1 : GI dk W1) (a : Op dk k' PK A' W1) : Op dk k' PK A W1 := by
  obtain ⟨v, u, W1', p, i, r1, f⟩ := a
  refine ⟨v, u, W1', p, i, fun r d H h => ?_, fun W2 g2 hR => ?_⟩
  · rw [e W1 g1 (Rf2.refl W1) r d H h]; exact r1 r d H h
  · obtain ⟨W2', a1, a2, a3⟩ := f W2 g2 hR
    exact ⟨W2', a1, a2, fun r d H h => by rw [e W2 g2 hR r d H h]; exact a3 r d H h⟩
theorem Op.up {k3 : Nat} (hk : k' ≤ k3) (a : Op dk k' PK A W1) : Op dk k3 PK A W1 := by
  obtain ⟨v, u, W1', p, i, r1, f⟩ := a
  refine ⟨v, u, W1', p, i.up hk, r1, fun W2 g2 hR => ?_⟩
  obtain ⟨W2', a1, a2, a3⟩ := f W2 g2 hR
  exact ⟨W2', a1.up hk, a2, a3⟩
theorem Op.mono (hp : ∀ v u, PK v u → PK2 v u) (a : Op dk k' PK A W1) : Op dk k' PK2 A W1 := by
  obtain ⟨v, u, W1', p, i, r1, f⟩ := a
  exact ⟨v, u, W1', hp v u p, i, r1, f⟩
/-- the counts: what the reference tells, the class tells -/
theorem InvE.rd (h : InvE dk W) : ∃ (m p n : Nat) (nb : Int32), (1 ≤ m ∧ m ≤ 60 ∧ p ≤ 20 ∧ n ≤ 60) ∧ (tq_gi W 155 11 1 = some (nI m) ∧ tq_gi W 155 11 24 = some (nI p) ∧ tq_gi W 155 11 11 = some (nI n) ∧ tq_gi W 155 11 10 = some nb) ∧
    ∀ r d H, Rl r d W H → tq_is H (r 0) 10 = some () ∧ f_X10_made (r 0) H = some (nI m) ∧ f_X10_paths (r 0) H = some (nI p) ∧ f_X10_nodes (r 0) H = some (nI n) ∧ f_X10_numbered (r 0) H = some nb := by
  obtain ⟨S, c, D, m, U, P, H0, Z, X, nw, ed, nv, vt, mv, Dv, rfl, hC, hF⟩ := h
  have hw := hC.gt.1.1
  have hm1 : 1 ≤ m := by have := hC.gt.2.2.1.2.1 0 (D.n_pos hw); omega
  refine ⟨m, P.n, D.n, c.2.2.1 155 10, ⟨hm1, hC.gt.2.2.1.1, hC.gp.2.2.1, D.n_le hw⟩, ⟨?_, ?_, ?_, ?_⟩, fun r d H h => ?_⟩
  · rw [tc_gi (S := S) (c := c) hC.mod.1 rfl, hC.gt.2.2.2.1.1]
  · rw [tc_gi (S := S) (c := c) hC.mod.1 rfl, hC.gp.2.1.1]
  · rw [tc_gi (S := S) (c := c) hC.mod.1 rfl, hC.gt.2.2.2.2.1]
  · rw [tc_gi (S := S) (c := c) hC.mod.1 rfl]
  · have h206 := h.2.2.2.2.2
    have r0 : rN r (tc_mk S c) H 0 = r 0 := rN_lt (by omega)
    have ht : Rr (rN r (tc_mk S c) H) (dN d (tc_mk S c)) 0 (r 0) := ⟨Or.inl h.1, r0.symm⟩
    refine ⟨?_, ?_, ?_, ?_, ?_⟩
    · obtain ⟨b, b1, b2⟩ := Sm.is h.em ht _ (rd_is hC); exact b1
    · obtain ⟨b, b1, b2⟩ := y_X10_made ht h.em _ (rd_made hC); rw [b1, ← b2]
    · obtain ⟨b, b1, b2⟩ := y_X10_paths ht h.em _ (rd_paths hC); rw [b1, ← b2]
    · obtain ⟨b, b1, b2⟩ := y_X10_nodes ht h.em _ (rd_nodes hC); rw [b1, ← b2]
    · obtain ⟨b, b1, b2⟩ := y_X10_numbered ht h.em _ (rd_numbered hC); rw [b1, ← b2]
theorem Rf2.gi {k : Nat} (hR : Rf2 W1 W2) : tq_gi W1 155 11 k = tq_gi W2 155 11 k := by
  unfold tq_gi
  rw [hR 155 (by omega) (by omega)]
/-- the counts of all stores with the same reference -/
theorem rds (g : GI dk W1) : ∃ (m p n : Nat) (nb : Int32), (1 ≤ m ∧ m ≤ 60 ∧ p ≤ 20 ∧ n ≤ 60) ∧ ∀ W, GI dk W → Rf2 W1 W → ∀ r d H, Rl r d W H → tq_is H (r 0) 10 = some () ∧ f_X10_made (r 0) H = some (nI m) ∧ f_X10_paths (r 0) H = some (nI p) ∧ f_X10_nodes (r 0) H = some (nI n) ∧ f_X10_numbered (r 0) H = some nb := by
  obtain ⟨m, p, n, nb, b, ⟨e1, e2, e3, e4⟩, -⟩ := g.1.rd
  refine ⟨m, p, n, nb, b, fun W g2 hR r d H h => ?_⟩
  obtain ⟨m', p', n', nb', b', ⟨f1, f2, f3, f4⟩, f⟩ := g2.1.rd
  rw [← hR.gi] at f1 f2 f3 f4
  rw [e1] at f1
  rw [e2] at f2
  rw [e3] at f3
  rw [e4] at f4
  rw [Option.some.inj f1, Option.some.inj f2, Option.some.inj f3, Option.some.inj f4]
  exact f r d H h
end OPS
