/-! ===== two stores that have done the same are alike ===== -/
/-- two stores in one heap with the same reference; what lies at 310 -/
def PS (dk : DI) (x : Int32) (H : tq_H) : Prop := ∃ r1 d1 W1 r2 d2 W2, (Rl r1 d1 W1 H ∧ r1 0 = 0) ∧ (Rl r2 d2 W2 H ∧ r2 0 = 155) ∧ (∀ q q', d1 q → d2 q' → r1 q ≠ r2 q') ∧ InvE dk W1 ∧ InvE dk W2 ∧ Rf2 W1 W2 ∧
  (310 < H.1 ∧ (∀ q, d1 q → r1 q ≠ 310) ∧ ∀ q, d2 q → r2 q ≠ 310) ∧ ∃ f : Nat → Int32, H.2 310 = .inr (0, (1, .inl f)) ∧ f 0 = x
section ALK
variable {dk : DI} {k' : Nat} {PK : Int32 → Nat → Prop} {A : Nat → tq_H → Option (Int32 × tq_H)} {W W' W1 W2 H H' : tq_H} {v x : Int32} {r r' r1 r2 : Nat → Nat} {d d' d1 d2 : Nat → Prop}
theorem Kpt.nc (k : Kpt r d H r' d' H') (h1 : 310 < H.1) (h2 : ∀ q, d q → r q ≠ 310) : 310 < H'.1 ∧ (∀ q, d' q → r' q ≠ 310) ∧ H'.2 310 = H.2 310 := by
  obtain ⟨a1, a2, a3, a4⟩ := k
  refine ⟨by omega, fun q hq z => ?_, a3 310 h1 h2⟩
  rcases a4 q hq with ⟨b1, b2⟩ | b
  · exact h2 q b1 (b2.symm.trans z)
  · omega
/-- both do the same -/
theorem PS.both (h : PS dk x H) (a : ∀ W, GI dk W → Op dk k' PK A W) : ∃ v u H1 H2, PK v u ∧ A 0 H = some (v, H1) ∧ tq_is H1 155 10 = some () ∧ A 155 H1 = some (v, H2) ∧ PS (dk.1, k', u) x H2 := by
  obtain ⟨r1, d1, W1, r2, d2, W2, ⟨l1, z1⟩, ⟨l2, z2⟩, hd, i1, i2, hR, ⟨n1, n2, n3⟩, f, f1, f2⟩ := h
  obtain ⟨v, u, W1', p, j1, run1, fol⟩ := a W1 ⟨i1, r1, d1, H, l1⟩
  obtain ⟨r1', d1', H1, e1, l1', k1⟩ := run1 r1 d1 H l1
  obtain ⟨l2', hd'⟩ := k1.other l1' l2 hd
  obtain ⟨W2', j2, hR', run2⟩ := fol W2 ⟨i2, r2, d2, H, l2⟩ hR
  obtain ⟨r2', d2', H2, e2, l2'', k2⟩ := run2 r2 d2 H1 l2'
  obtain ⟨l1'', hd''⟩ := k2.other l2'' l1' (fun q q' hq hq' z => hd' q' q hq' hq z.symm)
  obtain ⟨m1, m2, m3⟩ := k1.nc n1 n2
  have n3' : ∀ q, d2 q → r2 q ≠ 310 := n3
  obtain ⟨o1, o2, o3⟩ := k2.nc m1 n3'
  obtain ⟨_, _, _, _, _, _, rd⟩ := i2.rd
  have his := (rd r2 d2 H1 l2').1
  rw [z1] at e1
  rw [z2] at e2 his
  refine ⟨v, u, H1, H2, p, e1, his, e2, r1', d1', W1', r2', d2', W2', ⟨l1'', k1.1.trans z1⟩, ⟨l2'', k2.1.trans z2⟩, fun q q' hq hq' z => hd'' q' q hq' hq z.symm, j1, j2, hR', ⟨o1, m2, o2⟩, f, ?_, f2⟩
  rw [o3, m3, f1]
theorem PS.same (h : PS dk x H) (a : ∀ W, GI dk W → Op dk dk.2.1 (fun _ u => u = dk.2.2) A W) : ∃ v H1 H2, A 0 H = some (v, H1) ∧ tq_is H1 155 10 = some () ∧ A 155 H1 = some (v, H2) ∧ PS dk x H2 := by
  obtain ⟨v, u, H1, H2, rfl, e1, e2, e3, e4⟩ := h.both a
  exact ⟨v, H1, H2, e1, e2, e3, e4⟩
theorem PS.rd (h : PS dk x H) : ∃ (m p n : Nat) (nb : Int32), (1 ≤ m ∧ m ≤ 60 ∧ p ≤ 20 ∧ n ≤ 60) ∧ (tq_is H 0 10 = some () ∧ f_X10_made 0 H = some (nI m) ∧ f_X10_paths 0 H = some (nI p) ∧ f_X10_nodes 0 H = some (nI n) ∧ f_X10_numbered 0 H = some nb) ∧
    (tq_is H 155 10 = some () ∧ f_X10_made 155 H = some (nI m) ∧ f_X10_paths 155 H = some (nI p) ∧ f_X10_nodes 155 H = some (nI n) ∧ f_X10_numbered 155 H = some nb) := by
  obtain ⟨r1, d1, W1, r2, d2, W2, ⟨l1, z1⟩, ⟨l2, z2⟩, hd, i1, i2, hR, -⟩ := h
  have g1 : GI dk W1 := ⟨i1, r1, d1, H, l1⟩
  obtain ⟨m, p, n, nb, b, R⟩ := rds g1
  have a1 := R W1 g1 (Rf2.refl W1) r1 d1 H l1
  have a2 := R W2 ⟨i2, r2, d2, H, l2⟩ hR r2 d2 H l2
  rw [z1] at a1
  rw [z2] at a2
  exact ⟨m, p, n, nb, b, a1, a2⟩
theorem alike_87 {a2 : Int32} : ∀ (k j : Nat) (H : tq_H), PS dk x H → 60 ≤ j + k → j ≤ 60 → ∃ H', tq_loop (f_L_alike_b87 0 155 a2) (k + 1) ((1 : Int32), nI j, H) = some ((1 : Int32), H') ∧ PS dk x H' := by
  intro k
  induction k with
  | zero =>
    intro j H h hj hj2
    obtain ⟨m, p, n, nb, ⟨-, m60, -⟩, ⟨i1, i2, -⟩, -⟩ := h.rd
    have q : nI j ≥ nI m := nI_le (show m ≤ j by omega) (by omega)
    refine ⟨H, ?_, h⟩
    simp only [tq_loop, f_L_alike_b87, i1, i2, q, Option.bind_some, if_true]
  | succ k ih =>
    intro j H h hj hj2
    obtain ⟨m, p, n, nb, ⟨-, m60, -⟩, ⟨i1, i2, -⟩, -⟩ := id h.rd
    rcases Nat.lt_or_ge j m with y | y
    · have q : ¬ nI j ≥ nI m := nI_ge y (by omega)
      have n10 : ¬ (1 : Int32) = 0 := by decide
      have x1 : nI j + 1 = nI (j + 1) := nI_1 j
      obtain ⟨v1, A1, B1, s1, -, t1, h1⟩ := h.same (A := fun a H => f_L_kind a (nI j) H) fun W g => op_of (F := fun W => f_L_kind 0 (nI j) W) (fun hE ht => y_L_kind ht hE) (tw_kind g)
      have s1 : f_L_kind 0 (nI j) H = some (v1, A1) := s1
      have t1 : f_L_kind 155 (nI j) A1 = some (v1, B1) := t1
      obtain ⟨v2, A2, B2, s2, -, t2, h2⟩ := h1.same (A := fun a H => f_L_name a (nI j) H) fun W g => op_of (F := fun W => f_L_name 0 (nI j) W) (fun hE ht => y_L_name ht hE) (tw_name g)
      have s2 : f_L_name 0 (nI j) B1 = some (v2, A2) := s2
      have t2 : f_L_name 155 (nI j) A2 = some (v2, B2) := t2
      obtain ⟨v3, A3, B3, s3, -, t3, h3⟩ := h2.same (A := fun a H => f_L_value a (nI j) H) fun W g => op_of (F := fun W => f_L_value 0 (nI j) W) (fun hE ht => y_L_value ht hE) (tw_value g)
      have s3 : f_L_value 0 (nI j) B2 = some (v3, A3) := s3
      have t3 : f_L_value 155 (nI j) A3 = some (v3, B3) := t3
      obtain ⟨v4, A4, B4, s4, -, t4, h4⟩ := h3.same (A := fun a H => f_L_parent a (nI j) H) fun W g => op_of (F := fun W => f_L_parent 0 (nI j) W) (fun hE ht => y_L_parent ht hE) (tw_parent g)
      have s4 : f_L_parent 0 (nI j) B3 = some (v4, A4) := s4
      have t4 : f_L_parent 155 (nI j) A4 = some (v4, B4) := t4
      obtain ⟨v5, A5, B5, s5, -, t5, h5⟩ := h4.same (A := fun a H => f_L_space a (nI j) H) fun W g => op_of (F := fun W => f_L_space 0 (nI j) W) (fun hE ht => y_L_space ht hE) (tw_space g)
      have s5 : f_L_space 0 (nI j) B4 = some (v5, A5) := s5
      have t5 : f_L_space 155 (nI j) A5 = some (v5, B5) := t5
      obtain ⟨v6, A6, B6, s6, -, t6, h6⟩ := h5.same (A := fun a H => f_L_number a (nI j) H) fun W g => op_of (F := fun W => f_L_number 0 (nI j) W) (fun hE ht => y_L_number ht hE) (tw_number g)
      have s6 : f_L_number 0 (nI j) B5 = some (v6, A6) := s6
      have t6 : f_L_number 155 (nI j) A6 = some (v6, B6) := t6
      obtain ⟨v7, A7, B7, s7, -, t7, h7⟩ := h6.same (A := fun a H => f_L_types a (nI j) H) fun W g => op_of (F := fun W => f_L_types 0 (nI j) W) (fun hE ht => y_L_types ht hE) (tw_types g)
      have s7 : f_L_types 0 (nI j) B6 = some (v7, A7) := s7
      have t7 : f_L_types 155 (nI j) A7 = some (v7, B7) := t7
      obtain ⟨H', e, h'⟩ := ih (j + 1) B7 h7 (by omega) (by omega)
      refine ⟨H', ?_, h'⟩
      rw [tq_loop]
      simp only [f_L_alike_b87, i1, i2, q, n10, s1, t1, s2, t2, s3, t3, s4, t4, s5, t5, s6, t6, s7, t7, x1, tq_let, Option.bind_some, if_true, if_false]
      exact e
    · have q : nI j ≥ nI m := nI_le y (by omega)
      refine ⟨H, ?_, h⟩
      rw [tq_loop]
      simp only [f_L_alike_b87, i1, i2, q, Option.bind_some, if_true]
theorem alike_220 {a2 : Int32} : ∀ (k j : Nat) (H : tq_H), PS dk x H → 20 ≤ j + k → j ≤ 20 → ∃ H', tq_loop (f_L_alike_b220 0 155 a2) (k + 1) ((1 : Int32), nI j, H) = some ((1 : Int32), H') ∧ PS dk x H' := by
  intro k
  induction k with
  | zero =>
    intro j H h hj hj2
    obtain ⟨m, p, n, nb, ⟨-, -, p20, -⟩, ⟨i1, -, i2, -⟩, -⟩ := h.rd
    have q : nI j ≥ nI p := nI_le (show p ≤ j by omega) (by omega)
    refine ⟨H, ?_, h⟩
    simp only [tq_loop, f_L_alike_b220, i1, i2, q, Option.bind_some, if_true]
  | succ k ih =>
    intro j H h hj hj2
    obtain ⟨m, p, n, nb, ⟨-, -, p20, -⟩, ⟨i1, -, i2, -⟩, -⟩ := id h.rd
    rcases Nat.lt_or_ge j p with y | y
    · have q : ¬ nI j ≥ nI p := nI_ge y (by omega)
      have n10 : ¬ (1 : Int32) = 0 := by decide
      have x1 : nI j + 1 = nI (j + 1) := nI_1 j
      obtain ⟨v1, A1, B1, s1, -, t1, h1⟩ := h.same (A := fun a H => f_L_found a (nI j) (0 : Int32) H) fun W g => op_of (F := fun W => f_L_found 0 (nI j) (0 : Int32) W) (fun hE ht => y_L_found ht hE) (tw_found g)
      have s1 : f_L_found 0 (nI j) (0 : Int32) H = some (v1, A1) := s1
      have t1 : f_L_found 155 (nI j) (0 : Int32) A1 = some (v1, B1) := t1
      obtain ⟨v2, A2, B2, s2, -, t2, h2⟩ := h1.same (A := fun a H => f_L_plan a (nI j) H) fun W g => op_of (F := fun W => f_L_plan 0 (nI j) W) (fun hE ht => y_L_plan ht hE) (tw_plan g)
      have s2 : f_L_plan 0 (nI j) B1 = some (v2, A2) := s2
      have t2 : f_L_plan 155 (nI j) A2 = some (v2, B2) := t2
      obtain ⟨v3, A3, B3, s3, -, t3, h3⟩ := h2.same (A := fun a H => f_L_infer a (nI j) H) fun W g => op_of (F := fun W => f_L_infer 0 (nI j) W) (fun hE ht => y_L_infer ht hE) (tw_infer g)
      have s3 : f_L_infer 0 (nI j) B2 = some (v3, A3) := s3
      have t3 : f_L_infer 155 (nI j) A3 = some (v3, B3) := t3
      obtain ⟨v4, A4, B4, s4, -, t4, h4⟩ := h3.same (A := fun a H => f_L_groups a (nI j) H) fun W g => op_of (F := fun W => f_L_groups 0 (nI j) W) (fun hE ht => y_L_groups ht hE) (tw_groups g)
      have s4 : f_L_groups 0 (nI j) B3 = some (v4, A4) := s4
      have t4 : f_L_groups 155 (nI j) A4 = some (v4, B4) := t4
      obtain ⟨H', e, h'⟩ := ih (j + 1) B4 h4 (by omega) (by omega)
      refine ⟨H', ?_, h'⟩
      rw [tq_loop]
      simp only [f_L_alike_b220, i1, i2, q, n10, s1, t1, s2, t2, s3, t3, s4, t4, x1, tq_let, Option.bind_some, if_true, if_false]
      exact e
    · have q : nI j ≥ nI p := nI_le y (by omega)
      refine ⟨H, ?_, h⟩
      rw [tq_loop]
      simp only [f_L_alike_b220, i1, i2, q, Option.bind_some, if_true]
theorem alike_ok {a2 : Int32} (h : PS dk x H) : ∃ H', f_L_alike 0 155 a2 H = some (1, H') ∧ PS dk x H' := by
  obtain ⟨m, p, n, nb, -, ⟨i1, i2, i3, i4, i5⟩, ⟨j1, j2, j3, j4, j5⟩⟩ := id h.rd
  have n10 : ¬ (1 : Int32) = 0 := by decide
  have z1 : tq_bz 1 = some 1 := rfl
  obtain ⟨v1, A1, B1, s1, o1, t1, h1⟩ := h.same (A := fun a H => f_X10_isValid a H) fun W g => op_of (F := fun W => f_X10_isValid 0 W) (fun hE ht => y_X10_isValid ht hE) (tw_isValid g)
  have s1 : f_X10_isValid 0 H = some (v1, A1) := s1
  have t1 : f_X10_isValid 155 A1 = some (v1, B1) := t1
  obtain ⟨v2, A2, B2, s2, -, t2, h2⟩ := h1.same (A := fun a H => f_L_ranked a (a2 - a2 / (5 : Int32) * (5 : Int32)) (a2 - a2 / (2 : Int32) * (2 : Int32)) H) fun W g => op_of (F := fun W => f_L_ranked 0 (a2 - a2 / (5 : Int32) * (5 : Int32)) (a2 - a2 / (2 : Int32) * (2 : Int32)) W) (fun hE ht => y_L_ranked ht hE) (tw_ranked g)
  have s2 : f_L_ranked 0 (a2 - a2 / (5 : Int32) * (5 : Int32)) (a2 - a2 / (2 : Int32) * (2 : Int32)) B1 = some (v2, A2) := s2
  have t2 : f_L_ranked 155 (a2 - a2 / (5 : Int32) * (5 : Int32)) (a2 - a2 / (2 : Int32) * (2 : Int32)) A2 = some (v2, B2) := t2
  obtain ⟨H3, e3, h3⟩ := alike_87 (a2 := a2) 60 0 B2 h2 (by omega) (by omega)
  obtain ⟨H4, e4, h4⟩ := alike_220 (a2 := a2) 20 0 H3 h3 (by omega) (by omega)
  have e3 : tq_loop (f_L_alike_b87 0 155 a2) 61 ((1 : Int32), (0 : Int32), B2) = some ((1 : Int32), H3) := e3
  have e4 : tq_loop (f_L_alike_b220 0 155 a2) 21 ((1 : Int32), (0 : Int32), H3) = some ((1 : Int32), H4) := e4
  obtain ⟨v5, A5, B5, s5, -, t5, h5⟩ := h4.same (A := fun a H => f_L_viewed a (a2 - a2 / (5 : Int32) * (5 : Int32)) (0 : Int32) H) fun W g => op_of (F := fun W => f_L_viewed 0 (a2 - a2 / (5 : Int32) * (5 : Int32)) (0 : Int32) W) (fun hE ht => y_L_viewed ht hE) (tw_viewed g)
  have s5 : f_L_viewed 0 (a2 - a2 / (5 : Int32) * (5 : Int32)) (0 : Int32) H4 = some (v5, A5) := s5
  have t5 : f_L_viewed 155 (a2 - a2 / (5 : Int32) * (5 : Int32)) (0 : Int32) A5 = some (v5, B5) := t5
  obtain ⟨v6, A6, B6, s6, -, t6, h6⟩ := h5.same (A := fun a H => f_L_changed a (a2 - a2 / (5 : Int32) * (5 : Int32)) H) fun W g => op_of (F := fun W => f_L_changed 0 (a2 - a2 / (5 : Int32) * (5 : Int32)) W) (fun hE ht => y_L_changed ht hE) (tw_changed g)
  have s6 : f_L_changed 0 (a2 - a2 / (5 : Int32) * (5 : Int32)) B5 = some (v6, A6) := s6
  have t6 : f_L_changed 155 (a2 - a2 / (5 : Int32) * (5 : Int32)) A6 = some (v6, B6) := t6
  refine ⟨B6, ?_, h6⟩
  simp only [f_L_alike, i1, i2, i3, i4, i5, j1, j2, j3, j4, j5, s1, o1, t1, s2, t2, e3, e4, s5, t5, s6, t6, n10, z1, Option.bind_some, if_true, if_false]
end ALK
