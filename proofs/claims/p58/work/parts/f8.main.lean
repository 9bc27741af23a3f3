/-! ===== the law from its first row to its last ===== -/
section BEG
variable {W W' Wb H H' : tq_H} {d : Nat → Prop} {r : Nat → Nat} {sn : Nat} {xs : Nat → Int32} {v x : Int32} {T u n : Nat}
/-- an empty heap in another -/
theorem em_0 {G : tq_H} (hG : ∀ q, G.1 ≤ q → G.2 q = .inl (0, [])) : Em (fun q => G.1 + q) (fun _ => True) H0 G True H0 G := by
  refine ⟨fun q q' _ _ e => by have e : G.1 + q = G.1 + q' := e; omega, fun q _ => ⟨fun v hv => ?_, ?_⟩, fun q hq => absurd trivial hq, fun _ _ => rfl, fun _ k => ⟨trivial, ?_, rfl⟩, Nat.le_refl _, rfl, fun n => absurd trivial n⟩
  · have hv : v ∈ ([] : List Value) := hv
    simp at hv
  · show G.2 (G.1 + q) = mo _ (.inl (0, []))
    rw [hG _ (Nat.le_add_right _ _)]; rfl
  · show G.1 + (0 + k) = G.1 + k
    omega
theorem em_tail {W0 G : tq_H} (e : Em r (fun _ => True) W0 G True W H) (hW : ∀ q, W.1 ≤ q → W.2 q = .inl (0, [])) : ∀ j, H.1 ≤ j → H.2 j = .inl (0, []) := by
  intro j hj
  obtain ⟨-, z2, z3⟩ := e.2.2.2.2.1 trivial (j - H.1)
  rw [show H.1 + (j - H.1) = j by omega] at z2
  rw [← z2, (e.2.1 _ trivial).2, z3]
  rfl
theorem law_start : ∃ v2 v4 : tq_H, f_X10_init H0.1 (tq_new H0 (.inl (10, [.null, .null, .null, .null, .null, .null, .null, .null, .null, .null, .null, .null, .int 0, .int 0, .int 0, .long 0, .long 0, .int 0, .int 0]))) = some v2 ∧ v2.1 = 155 ∧
    f_X10_init v2.1 (tq_new v2 (.inl (10, [.null, .null, .null, .null, .null, .null, .null, .null, .null, .null, .null, .null, .int 0, .int 0, .int 0, .long 0, .long 0, .int 0, .int 0]))) = some v4 ∧ v4.1 = 310 ∧ PS (dist, 0, 0) 0 (tq_new v4 (.inr (0, (1, .inl (fun _ => 0))))) := by
  obtain ⟨g, w, e1, g1, w1, w2, g2, w3, hI⟩ := ghost_begin
  -- the first store in itself
  have m0 := em_0 (G := H0) (fun _ _ => rfl)
  have n0 : Rr (fun q => H0.1 + q) (fun _ => True) H0.1 H0.1 := ⟨trivial, rfl⟩
  obtain ⟨g', a1, a2⟩ := y_X10_init trivial n0 (m0.new trivial (okO_l (r := fun q => H0.1 + q) (d := fun _ => True) (c := 10) (fs := [.null, .null, .null, .null, .null, .null, .null, .null, .null, .null, .null, .null, .int 0, .int 0, .int 0, .long 0, .long 0, .int 0, .int 0]) rfl)) _ e1
  rw [e1] at a1
  cases a1
  -- the second behind it
  have m1 := em_0 (G := g) (fun q hq => g2 q (by omega))
  have n1 : Rr (fun q => g.1 + q) (fun _ => True) H0.1 g.1 := ⟨trivial, rfl⟩
  obtain ⟨v4, b1, b2⟩ := y_X10_init trivial n1 (m1.new trivial (okO_l (r := fun q => g.1 + q) (d := fun _ => True) (c := 10) (fs := [.null, .null, .null, .null, .null, .null, .null, .null, .null, .null, .null, .null, .int 0, .int 0, .int 0, .long 0, .long 0, .int 0, .int 0]) rfl)) _ e1
  have v41 : v4.1 = 310 := by
    have := b2.2.2.2.2.2.2.1
    have h01 : H0.1 = 0 := rfl
    omega
  have t4 := em_tail b2 (fun q hq => g2 q (by omega))
  refine ⟨g, v4, e1, g1, b1, v41, ?_⟩
  obtain ⟨D, D0, hD⟩ := hI.cl
  have d155 : ∀ q, D q → q < 155 := fun q hq => by
    obtain ⟨⟨z1, z2⟩, -⟩ := hD q hq
    omega
  have nw2 : ∀ q, q < 310 → (tq_new v4 (.inr (0, (1, .inl (fun _ => 0))))).2 q = v4.2 q := fun q hq => by
    show (if q = v4.1 then _ else v4.2 q) = _
    rw [if_neg (by omega)]
  have nwt : ∀ j, (tq_new v4 (.inr (0, (1, .inl (fun _ => 0))))).1 ≤ j → (tq_new v4 (.inr (0, (1, .inl (fun _ => 0))))).2 j = junk := fun j hj => by
    have hj : v4.1 + 1 ≤ j := hj
    show (if j = v4.1 then _ else v4.2 j) = _
    rw [if_neg (by omega)]
    exact t4 j (by omega)
  have nw1 : (tq_new v4 (.inr (0, (1, .inl (fun _ => 0))))).1 = 311 := by show v4.1 + 1 = 311; omega
  have l1 : Rl (fun q => H0.1 + q) D w (tq_new v4 (.inr (0, (1, .inl (fun _ => 0))))) := by
    refine ⟨D0, fun q q' _ _ e => ?_, fun q hq => ⟨⟨by have := d155 q hq; omega, ?_, (hD q hq).1.2⟩, (hD q hq).2, ?_⟩, fun j hj => w3 j (by omega), nwt, by omega⟩
    · have e : 0 + q = 0 + q' := e
      omega
    · have := d155 q hq
      show 0 + q < _
      rw [nw1]; omega
    · have h := d155 q hq
      have h4 : v4.2 q = g.2 q := b2.2.2.2.1 q fun q' _ z => by
        have z : g.1 + q' = q := z
        omega
      have h5 := (a2.2.1 q trivial).2
      show (tq_new v4 _).2 (0 + q) = _
      rw [Nat.zero_add, nw2 q (by omega), h4, w2 q h]
      have h5 : g.2 (0 + q) = mo (fun q => H0.1 + q) (g.2 q) := h5
      rw [Nat.zero_add] at h5
      exact h5
  have l2 : Rl (fun q => g.1 + q) D w (tq_new v4 (.inr (0, (1, .inl (fun _ => 0))))) := by
    refine ⟨D0, fun q q' _ _ e => ?_, fun q hq => ⟨⟨by have := d155 q hq; omega, ?_, (hD q hq).1.2⟩, (hD q hq).2, ?_⟩, fun j hj => w3 j (by omega), nwt, by omega⟩
    · have e : g.1 + q = g.1 + q' := e
      omega
    · have := d155 q hq
      show g.1 + q < _
      rw [nw1]; omega
    · have h := d155 q hq
      have h5 : v4.2 (g.1 + q) = mo (fun q => g.1 + q) (g.2 q) := (b2.2.1 q trivial).2
      show (tq_new v4 _).2 (g.1 + q) = _
      rw [nw2 _ (by omega), h5, w2 q h]
  refine ⟨_, D, w, _, D, w, ⟨l1, rfl⟩, ⟨l2, g1⟩, fun q q' hq hq' z => ?_, hI, hI, Rf2.refl w, ⟨by rw [nw1]; omega, fun q hq z => ?_, fun q hq z => ?_⟩, fun _ => 0, ?_, rfl⟩
  · have z : 0 + q = g.1 + q' := z
    have := d155 q hq
    omega
  · have z : 0 + q = 310 := z
    have := d155 q hq
    omega
  · have z : g.1 + q = 310 := z
    have := d155 q hq
    omega
  · show (if 310 = v4.1 then _ else v4.2 310) = _
    rw [if_pos v41.symm]
/-- one store alone, at 0 -/
def P1 (W H : tq_H) : Prop := ∃ r d, Rl r d W H ∧ r 0 = 0
theorem P1.run {A : Nat → tq_H → Option (Int32 × tq_H)} {W1 : tq_H} (h : P1 W H) (a : Run A v W W1) : ∃ H', A 0 H = some (v, H') ∧ P1 W1 H' := by
  obtain ⟨r, d, hl, hz⟩ := h
  obtain ⟨r', d', H', e, hl', k⟩ := a r d H hl
  rw [hz] at e
  exact ⟨H', e, r', d', hl', k.1.trans hz⟩
/-- an update is taken and thrown away, as one call -/
def f_EF (a : Nat) (h : tq_H) : Option (Int32 × tq_H) :=
  (f_L_element a 0 0 1 h).bind fun v => (tq_is v.2 a 10).bind fun _ => (f_X10_forget a v.2).bind fun u => if v.1 = 1 then if u.1 = 1 then some ((1 : Int32), u.2) else none else none
theorem y_EF {r : Nat → Nat} {d : Nat → Prop} {W0 H0 : tq_H} {al : Prop} {t t' : Nat} {h h' : tq_H} (gt : Rr r d t t') (gh : Em r d W0 H0 al h h') : Sm (Rp Eq (Em r d W0 H0 al)) (f_EF t h) (f_EF t' h') := by
  unfold f_EF
  refine Sm.b (y_L_element gt gh) ?_
  rintro ⟨v, w⟩ ⟨_, w'⟩ ⟨rfl, gw⟩
  refine Sm.b (Sm.is gw gt) ?_
  intro _ _ _
  refine Sm.b (y_X10_forget gt gw) ?_
  rintro ⟨u, w2⟩ ⟨_, w2'⟩ ⟨rfl, gw2⟩
  exact Sm.i (Sm.i (Sm.s ⟨rfl, gw2⟩) Sm.no) Sm.no
theorem EF_at {a : Nat} (e : f_EF a H = some (v, H')) : ∃ H1, f_L_element a 0 0 1 H = some (1, H1) ∧ tq_is H1 a 10 = some () ∧ f_X10_forget a H1 = some (1, H') := by
  unfold f_EF at e
  obtain ⟨⟨v1, H1⟩, e1, e⟩ := tq_be e
  obtain ⟨⟨⟩, e2, e⟩ := tq_be e
  obtain ⟨⟨u1, H2⟩, e3, e⟩ := tq_be e
  dsimp only at e2 e3 e
  split at e
  · rename_i h1
    split at e
    · rename_i h2
      cases e
      subst h1
      subst h2
      exact ⟨H1, e1, e2, e3⟩
    · cases e
  · cases e
/-- the last rows -/
theorem law_tail {k : Nat} (hk : k ≤ 1001) (h : P1 W H) (i : InvE (dist, k, 0) W) (hn : f_X10_nodes 0 H = some (nI n)) (hn60 : n ≤ 60) :
    ∃ v45 H1, f_L_keep 0 H = some (v45, H1) ∧ (v45 < 0 ∨ (¬ v45 < 0 ∧ ∃ H2 H3 H4 H5 H6 H7, f_L_distance 0 v45 v45 H1 = some (0, H2) ∧ f_L_odds 0 v45 v45 v45 H2 = some (0, H3) ∧ f_L_element 0 0 0 1 H3 = some (1, H4) ∧ tq_is H4 0 10 = some () ∧ f_X10_forget 0 H4 = some (1, H5) ∧
      f_L_take 0 v45 H5 = some (nI n, H6) ∧ tq_is H6 0 10 = some () ∧ f_X10_nodes 0 H6 = some (nI n) ∧ f_L_isTree 0 H6 = some (1, H7))) := by
  obtain ⟨S, c, D, m, U, P, Hd, Z, X, nw, ed, nv, vt, mv, Dv, rfl, hC, hF⟩ := i
  have hU : U.n = 0 := hC.un
  have hDn : nI n = nI D.n := by
    obtain ⟨r, d, hl, hz⟩ := h
    have r0 : rN r (tc_mk S c) H 0 = r 0 := rN_lt (by have := hl.2.2.2.2.2; omega)
    have ht : Rr (rN r (tc_mk S c) H) (dN d (tc_mk S c)) 0 (r 0) := ⟨Or.inl hl.1, r0.symm⟩
    obtain ⟨b, b1, b2⟩ := y_X10_nodes ht hl.em _ (rd_nodes hC)
    rw [hz, hn] at b1
    rw [Option.some.inj b1, b2]
  by_cases q : nv < 6
  · obtain ⟨S', c2, w, e1, s1, hC1, hF1⟩ := keep_x hC hF q
    have l1 : f_L_keep 0 (tc_mk S c) = some (nI nv, tc_mk S' c2) := by simp only [f_L_keep, rd_is hC, e1, Option.bind_some]
    obtain ⟨H1, a1, p1⟩ := h.run (run_of (A := fun t H => f_L_keep t H) (F := fun W => f_L_keep 0 W) (fun hE ht => y_L_keep trivial ht hE) l1 s1 (InvE.of ⟨hC1, hF1⟩))
    have qv : 0 ≤ nI nv ∧ nI nv < nI (nv + 1) := ⟨nI_pos' (by omega), nI_lt (by omega) (by omega)⟩
    refine ⟨nI nv, H1, a1, Or.inr ⟨nI_neg1 (by omega), ?_⟩⟩
    obtain ⟨S2, c3, ed2, e2, hC2, hF2⟩ := dist_x hC1 hF1 qv
    have l2 : f_L_distance 0 (nI nv) (nI nv) (tc_mk S' w) = some (0, tc_mk S2 c3) := by simp only [f_L_distance, rd_is hC1, e2, Option.bind_some]
    obtain ⟨H2, a2, p2⟩ := p1.run (run_of (A := fun t H => f_L_distance t (nI nv) (nI nv) H) (F := fun W => f_L_distance 0 (nI nv) (nI nv) W) (fun hE ht => y_L_distance trivial ht hE) l2 (St.refl _) (InvE.of ⟨hC2, hF2⟩))
    have e3 := odds_x hC2 qv
    have l3 : f_L_odds 0 (nI nv) (nI nv) (nI nv) (tc_mk S2 c3) = some (0, tc_mk S2 c3) := by simp only [f_L_odds, rd_is hC2, e3, Option.bind_some]
    obtain ⟨H3, a3, p3⟩ := p2.run (run_of (A := fun t H => f_L_odds t (nI nv) (nI nv) (nI nv) H) (F := fun W => f_L_odds 0 (nI nv) (nI nv) (nI nv) W) (fun hE ht => y_L_odds ht hE) l3 (St.refl _) (InvE.of ⟨hC2, hF2⟩))
    obtain ⟨c4, c5, e4, i4, e5, hC3, hF3⟩ := elem_x hC2 hF2 hU
    have l4 : f_EF 0 (tc_mk S2 c3) = some (1, tc_mk S2 c5) := by
      simp only [f_EF, f_L_element, rd_is hC2, e4, i4, e5, Option.bind_some, if_true]
    obtain ⟨H5, a4, p5⟩ := p3.run (run_of (A := f_EF) (F := fun W => f_EF 0 W) (fun hE ht => y_EF ht hE) l4 (St.refl _) (InvE.of ⟨hC3, hF3⟩))
    obtain ⟨H4, a5, a6, a7⟩ := EF_at a4
    have hz : c5.2.2.1 155 42 = 0 ∨ ((fun k => if k < nv then Dv k else D) nv).ty Z 0 0 = true := by
      dsimp only
      rw [if_neg (Nat.lt_irrefl _)]
      obtain ⟨-, -, st, s2, s3⟩ := hC3.gs
      cases st with
      | false => exact Or.inl s3
      | true =>
        obtain ⟨-, -, st', t2, t3⟩ := hC1.gs
        -- the schema is as it was
        have := hC3.gq.1 s2
        exact Or.inr this
    obtain ⟨r, d, hl, hzr⟩ := id p5
    obtain ⟨Wb, W', e6, s6, i6, f6⟩ := take_x hC3 hF3 rfl (show nv < nv + 1 by omega) hz ⟨r, d, H5, hl⟩
    have hD2 : ((fun k => if k < nv then Dv k else D) nv).n = D.n := by
      dsimp only
      rw [if_neg (Nat.lt_irrefl _)]
    rw [hD2] at e6 f6
    obtain ⟨H6, a8, p6⟩ := p5.run (run_of (A := fun t H => f_L_take t (nI nv) H) (F := fun W => f_L_take 0 (nI nv) W) (fun hE ht => y_L_take ht hE) e6 s6 i6)
    obtain ⟨r6, d6, hl6, hz6⟩ := id p6
    obtain ⟨m', p', n', nb', -, ⟨-, -, g3, -⟩, R⟩ := i6.rd
    obtain ⟨x1, -, -, x4, -⟩ := R r6 d6 H6 hl6
    rw [hz6] at x1 x4
    rw [f6] at g3
    have hn' : nI D.n = nI n' := Option.some.inj g3
    rw [← hn', ← hDn] at x4
    obtain ⟨v7, W7, rfl, e7, i7⟩ := g_tree (W := W') (dk := (dist, k, 0)) hk ⟨i6, r6, d6, H6, hl6⟩
    obtain ⟨H7, a9, p7⟩ := p6.run (run_of (A := fun t H => f_L_isTree t H) (F := fun W => f_L_isTree 0 W) (fun hE ht => y_L_isTree ht hE) e7 (St.refl _) i7)
    rw [← hDn] at a8
    exact ⟨H2, H3, H4, H5, H6, H7, a2, a3, a5, a6, a7, a8, x1, x4, a9⟩
  · have e1 := keep_6 hC q
    have l1 : f_L_keep 0 (tc_mk S c) = some (-2000000003, tc_mk S c) := by simp only [f_L_keep, rd_is hC, e1, Option.bind_some, if_true]
    obtain ⟨H1, a1, p1⟩ := h.run (run_of (A := fun t H => f_L_keep t H) (F := fun W => f_L_keep 0 W) (fun hE ht => y_L_keep trivial ht hE) l1 (St.refl _) (InvE.of ⟨hC, hF⟩))
    exact ⟨_, H1, a1, Or.inl (by decide)⟩
/-- the law answers true -/
theorem law_main {L : Nat} (xs : Nat → Int32) (hL : L ≤ 260) : ∃ h1 : tq_H, f_L_law L xs H0 = some (1, h1) := by
  have n10 : ¬ (1 : Int32) = 0 := by decide
  have z1 : tq_bz 1 = some 1 := rfl
  obtain ⟨v2, v4, e1, v21, e2, v41, p0⟩ := law_start
  obtain ⟨t, t31, hd⟩ := drawn_ok (sn := L) (xs := xs) (j := 0) (by omega) (by decide)
  have hd : f_L_drawn L xs 0 = some (nI t) := hd
  have z31 : nI t - nI t / (31 : Int32) * (31 : Int32) = nI (t % 31) := nmod (d := 31) (by omega) (by omega) (by omega)
  have z20 : (20 : Int32) + nI (t % 31) = nI (20 + t % 31) := nI_add 20 _
  obtain ⟨H1, u, e3, p1⟩ := law_rounds (sn := L) (xs := xs) (T := 20 + t % 31) (by omega) (by omega) 50 0 0 _ p0 (by omega) (by omega)
  have e3 : tq_loop (f_L_law_b39 L xs 0 155 310 (nI (20 + t % 31))) 51 ((1 : Int32), (0 : Int32), tq_new v4 (.inr (0, (1, .inl (fun _ => 0))))) = some ((1 : Int32), H1) := e3
  obtain ⟨m, p, n, nb, ⟨-, -, -, n60⟩, ⟨i1, -, -, i4, -⟩, -⟩ := id p1.rd
  -- the lists are thrown away
  obtain ⟨v, u2, H2, H3, rfl, e4, e5, e6, p2⟩ := p1.both (A := fun a H => f_X10_forget a H) (fun W g => op_of (F := fun W => f_X10_forget 0 W) (fun hE ht => y_X10_forget ht hE) (tw_forget g))
  have e4 : f_X10_forget 0 H1 = some (v, H2) := e4
  have e6 : f_X10_forget 155 H2 = some (v, H3) := e6
  obtain ⟨H4, e7, p3⟩ := alike_ok (a2 := nI t / (29 : Int32)) p2
  have hk : (20 + t % 31) ≤ 1001 := by omega
  obtain ⟨H5, e8, p4⟩ := p3.tree1 hk
  obtain ⟨H6, e9, p5⟩ := p4.finds1 hk
  obtain ⟨m', p', n', nb', ⟨-, -, -, n60'⟩, ⟨-, -, -, i4', -⟩, -⟩ := id p5.rd
  obtain ⟨r1, d1, W1, -, -, -, ⟨l1, lz⟩, -, -, iW, -⟩ := p5
  obtain ⟨v45, H7, e10, tl⟩ := law_tail (k := 20 + t % 31) hk ⟨r1, d1, l1, lz⟩ iW i4' n60'
  rw [H0_1] at e1
  rw [v21] at e2
  rcases tl with q | ⟨q, H8, H9, H10, H11, H12, H13, f1, f2, f3, f4, f5, f6, f7, f8, f9⟩
  · refine ⟨H7, ?_⟩
    simp only [f_L_law, tq_let, H0_1, e1, v21, e2, v41, hd, z31, z20, e3, i1, i4, n10, e4, e5, e6, e7, e8, e9, e10, q, z1, Option.bind_some, if_true, if_false]
  · refine ⟨H13, ?_⟩
    simp only [f_L_law, tq_let, H0_1, e1, v21, e2, v41, hd, z31, z20, e3, i1, i4, n10, e4, e5, e6, e7, e8, e9, e10, q, f1, f2, f3, f4, f5, f6, f7, f8, f9, z1, Option.bind_some, if_true, if_false]
end BEG
