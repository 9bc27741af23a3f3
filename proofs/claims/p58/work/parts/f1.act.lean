/-! ===== printed by wip/p58/tools/gen_act.py: an act is alike in both stores ===== -/
/-- what an act does to the list -/
def PKx (un : Nat) (z v : Int32) (u : Nat) : Prop := (z < 9 → PKp un v u) ∧ (9 ≤ z → z < 13 → u = 0) ∧ (13 ≤ z → u = un)
section ACT
variable {dk : DI} {W1 : tq_H} {x z v : Int32} {un u m t p : Nat}
theorem pkx_p (hz : z < 9) (h : PKp un v u) : PKx un z v u :=
  ⟨fun _ => h, fun a _ => absurd hz (Int32.not_lt.mpr a), fun a => absurd hz (Int32.not_lt.mpr (Int32.le_trans (by decide) a))⟩
theorem pkx_a (h1 : 9 ≤ z) (h2 : z < 13) (h : u = 0) : PKx un z v u :=
  ⟨fun a => absurd a (Int32.not_lt.mpr h1), fun _ _ => h, fun a => absurd h2 (Int32.not_lt.mpr a)⟩
theorem pkx_o (hz : 13 ≤ z) (h : u = un) : PKx un z v u :=
  ⟨fun a => absurd a (Int32.not_lt.mpr (Int32.le_trans (by decide) hz)), fun _ a => absurd a (Int32.not_lt.mpr hz), fun _ => h⟩
theorem bo01 (q : Prop) [Decidable q] : (if q then (1 : Int32) else (0 : Int32)) = 0 ∨ (if q then (1 : Int32) else (0 : Int32)) = 1 := by
  by_cases h : q
  · rw [if_pos h]; exact Or.inr rfl
  · rw [if_neg h]; exact Or.inl rfl
theorem nz_nI (h : m < 2 ^ 31) (h0 : 0 < m) : tq_nz (nI m) = some () := by
  unfold tq_nz
  rw [if_neg (fun e : nI m = (0 : Int32) => by have := (nI_eq (b := 0) h (by decide)).mp e; omega)]
theorem p9_eq (hp : p ≤ 20) : (if nI p = 0 then some (0 : Int32) else some (nI p - (1 : Int32))) = some (nI (p - 1)) := by
  by_cases h : p = 0
  · subst h; rfl
  · rw [if_neg (fun e : nI p = (0 : Int32) => h ((nI_eq (b := 0) (by omega) (by decide)).mp e)), show (1 : Int32) = nI 1 from rfl, pk_sub (by omega)]
/-- the list is done, or thrown away -/
theorem op_apply (g : GI dk W1) (hk : dk.2.1 ≤ 1000) : Op dk (dk.2.1 + 1) (fun _ u => u = 0) (fun a H => (f_L_apply a H).bind fun o => (fun (v : Int32) a H => if v = (-2000000003 : Int32) then (tq_is H a 10).bind fun _ => (f_X10_forget a H).bind fun w => some ((-9 : Int32) - w.1, w.2) else some (v, H)) o.1 a o.2) W1 := by
  refine Op.bind (B := fun (v : Int32) a H => if v = (-2000000003 : Int32) then (tq_is H a 10).bind fun _ => (f_X10_forget a H).bind fun w => some ((-9 : Int32) - w.1, w.2) else some (v, H)) (op_of (F := fun W => f_L_apply 0 W) (fun hE ht => y_L_apply ht hE) (tw_apply g hk)) (fun v u W pk gW => ?_) g
  by_cases hv : v = -2000000003
  · obtain ⟨m, p, n, nb, -, R⟩ := rds gW
    refine Op.cg (A' := fun a H => (f_X10_forget a H).bind fun o => (fun (v : Int32) _ H => some ((-9 : Int32) - v, H)) o.1 a o.2) (fun W2 g2 hR r d H h => ?_) gW ?_
    · obtain ⟨i1, -⟩ := R W2 g2 hR r d H h
      simp only [hv, i1, Option.bind_some, if_true]
    · refine Op.bind (B := fun (v : Int32) _ H => some ((-9 : Int32) - v, H)) (op_of (F := fun W => f_X10_forget 0 W) (fun hE ht => y_X10_forget ht hE) (tw_forget gW)) (fun v2 u2 W2 h2 g2 => ?_) gW
      exact Op.ret g2 h2
  · refine Op.cg (A' := fun _ H => some (v, H)) (fun W2 g2 hR r d H h => ?_) gW ?_
    · simp only [hv, if_false]
    · refine Op.ret gW ?_
      rcases pk with a | ⟨-, a⟩
      · exact a
      · exact absurd a hv

set_option maxHeartbeats 4000000 in
theorem op_act (g : GI dk W1) (hk : dk.2.1 ≤ 1000) (hx : ∃ k, k < 24 ∧ x - x / (24 : Int32) * (24 : Int32) = nI k) : Op dk (dk.2.1 + 1) (PKx dk.2.2 (x - x / (24 : Int32) * (24 : Int32))) (fun a H => f_L_act a x H) W1 := by
  obtain ⟨m, p, n, nb, ⟨m1, m60, p20, -⟩, R⟩ := rds g
  have hz : tq_nz (nI m) = some () := nz_nI (by omega) (by omega)
  have p9 := p9_eq p20
  obtain ⟨t, ht⟩ : ∃ t, t = p - 1 := ⟨_, rfl⟩
  rw [← ht] at p9
  have hz1 : tq_nz (nI t + (1 : Int32)) = some () := by
    rw [nI_1]
    exact nz_nI (by omega) (by omega)
  by_cases c0 : x - x / (24 : Int32) * (24 : Int32) = (0 : Int32)
  · refine Op.cg (A' := fun a H => f_L_element a ((x / (24 : Int32)) - (x / (24 : Int32)) / nI m * nI m) (((x / (24 : Int32)) / (61 : Int32)) - ((x / (24 : Int32)) / (61 : Int32)) / (3 : Int32) * (3 : Int32)) (((x / (24 : Int32)) / (183 : Int32)) - ((x / (24 : Int32)) / (183 : Int32)) / (4 : Int32) * (4 : Int32)) H) (fun W2 g2 hR r d H h => ?_) g ?_
    · obtain ⟨i1, i2, i3, -⟩ := R W2 g2 hR r d H h
      simp only [f_L_act, i1, i2, i3, hz, hz1, p9, eq_true c0, Option.bind_some, tq_let, if_true, if_false, bs2]
    · exact Op.up (Nat.le_succ _) (Op.mono (fun v u h => pkx_p (by rw [c0] <;> decide) h) (op_of (F := fun W => f_L_element 0 ((x / (24 : Int32)) - (x / (24 : Int32)) / nI m * nI m) (((x / (24 : Int32)) / (61 : Int32)) - ((x / (24 : Int32)) / (61 : Int32)) / (3 : Int32) * (3 : Int32)) (((x / (24 : Int32)) / (183 : Int32)) - ((x / (24 : Int32)) / (183 : Int32)) / (4 : Int32) * (4 : Int32)) W) (fun hE ht => y_L_element ht hE) (tw_element g)))
  by_cases c1 : x - x / (24 : Int32) * (24 : Int32) = (1 : Int32)
  · refine Op.cg (A' := fun a H => f_L_element a ((x / (24 : Int32)) - (x / (24 : Int32)) / nI m * nI m) (((x / (24 : Int32)) / (61 : Int32)) - ((x / (24 : Int32)) / (61 : Int32)) / (3 : Int32) * (3 : Int32)) (((x / (24 : Int32)) / (183 : Int32)) - ((x / (24 : Int32)) / (183 : Int32)) / (4 : Int32) * (4 : Int32)) H) (fun W2 g2 hR r d H h => ?_) g ?_
    · obtain ⟨i1, i2, i3, -⟩ := R W2 g2 hR r d H h
      simp only [f_L_act, i1, i2, i3, hz, hz1, p9, eq_true c1, c0, Option.bind_some, tq_let, if_true, if_false, bs2]
    · exact Op.up (Nat.le_succ _) (Op.mono (fun v u h => pkx_p (by rw [c1] <;> decide) h) (op_of (F := fun W => f_L_element 0 ((x / (24 : Int32)) - (x / (24 : Int32)) / nI m * nI m) (((x / (24 : Int32)) / (61 : Int32)) - ((x / (24 : Int32)) / (61 : Int32)) / (3 : Int32) * (3 : Int32)) (((x / (24 : Int32)) / (183 : Int32)) - ((x / (24 : Int32)) / (183 : Int32)) / (4 : Int32) * (4 : Int32)) W) (fun hE ht => y_L_element ht hE) (tw_element g)))
  by_cases c2 : x - x / (24 : Int32) * (24 : Int32) = (2 : Int32)
  · refine Op.cg (A' := fun a H => f_L_element a ((x / (24 : Int32)) - (x / (24 : Int32)) / nI m * nI m) (((x / (24 : Int32)) / (61 : Int32)) - ((x / (24 : Int32)) / (61 : Int32)) / (3 : Int32) * (3 : Int32)) (((x / (24 : Int32)) / (183 : Int32)) - ((x / (24 : Int32)) / (183 : Int32)) / (4 : Int32) * (4 : Int32)) H) (fun W2 g2 hR r d H h => ?_) g ?_
    · obtain ⟨i1, i2, i3, -⟩ := R W2 g2 hR r d H h
      simp only [f_L_act, i1, i2, i3, hz, hz1, p9, eq_true c2, c0, c1, Option.bind_some, tq_let, if_true, if_false, bs2]
    · exact Op.up (Nat.le_succ _) (Op.mono (fun v u h => pkx_p (by rw [c2] <;> decide) h) (op_of (F := fun W => f_L_element 0 ((x / (24 : Int32)) - (x / (24 : Int32)) / nI m * nI m) (((x / (24 : Int32)) / (61 : Int32)) - ((x / (24 : Int32)) / (61 : Int32)) / (3 : Int32) * (3 : Int32)) (((x / (24 : Int32)) / (183 : Int32)) - ((x / (24 : Int32)) / (183 : Int32)) / (4 : Int32) * (4 : Int32)) W) (fun hE ht => y_L_element ht hE) (tw_element g)))
  by_cases c3 : x - x / (24 : Int32) * (24 : Int32) = (3 : Int32)
  · refine Op.cg (A' := fun a H => f_L_text a ((x / (24 : Int32)) - (x / (24 : Int32)) / nI m * nI m) (0 : Int32) (((x / (24 : Int32)) / (61 : Int32)) - ((x / (24 : Int32)) / (61 : Int32)) / (5 : Int32) * (5 : Int32)) H) (fun W2 g2 hR r d H h => ?_) g ?_
    · obtain ⟨i1, i2, i3, -⟩ := R W2 g2 hR r d H h
      simp only [f_L_act, i1, i2, i3, hz, hz1, p9, eq_true c3, c0, c1, c2, Option.bind_some, tq_let, if_true, if_false, bs2]
    · exact Op.up (Nat.le_succ _) (Op.mono (fun v u h => pkx_p (by rw [c3] <;> decide) h) (op_of (F := fun W => f_L_text 0 ((x / (24 : Int32)) - (x / (24 : Int32)) / nI m * nI m) (0 : Int32) (((x / (24 : Int32)) / (61 : Int32)) - ((x / (24 : Int32)) / (61 : Int32)) / (5 : Int32) * (5 : Int32)) W) (fun hE ht => y_L_text ht hE) (tw_text g)))
  by_cases c4 : x - x / (24 : Int32) * (24 : Int32) = (4 : Int32)
  · refine Op.cg (A' := fun a H => f_L_text a ((x / (24 : Int32)) - (x / (24 : Int32)) / nI m * nI m) (0 : Int32) (((x / (24 : Int32)) / (61 : Int32)) - ((x / (24 : Int32)) / (61 : Int32)) / (5 : Int32) * (5 : Int32)) H) (fun W2 g2 hR r d H h => ?_) g ?_
    · obtain ⟨i1, i2, i3, -⟩ := R W2 g2 hR r d H h
      simp only [f_L_act, i1, i2, i3, hz, hz1, p9, eq_true c4, c0, c1, c2, c3, Option.bind_some, tq_let, if_true, if_false, bs2]
    · exact Op.up (Nat.le_succ _) (Op.mono (fun v u h => pkx_p (by rw [c4] <;> decide) h) (op_of (F := fun W => f_L_text 0 ((x / (24 : Int32)) - (x / (24 : Int32)) / nI m * nI m) (0 : Int32) (((x / (24 : Int32)) / (61 : Int32)) - ((x / (24 : Int32)) / (61 : Int32)) / (5 : Int32) * (5 : Int32)) W) (fun hE ht => y_L_text ht hE) (tw_text g)))
  by_cases c5 : x - x / (24 : Int32) * (24 : Int32) = (5 : Int32)
  · refine Op.cg (A' := fun a H => f_L_attribute a ((x / (24 : Int32)) - (x / (24 : Int32)) / nI m * nI m) (((x / (24 : Int32)) / (61 : Int32)) - ((x / (24 : Int32)) / (61 : Int32)) / (4 : Int32) * (4 : Int32)) (((x / (24 : Int32)) / (244 : Int32)) - ((x / (24 : Int32)) / (244 : Int32)) / (5 : Int32) * (5 : Int32)) H) (fun W2 g2 hR r d H h => ?_) g ?_
    · obtain ⟨i1, i2, i3, -⟩ := R W2 g2 hR r d H h
      simp only [f_L_act, i1, i2, i3, hz, hz1, p9, eq_true c5, c0, c1, c2, c3, c4, Option.bind_some, tq_let, if_true, if_false, bs2]
    · exact Op.up (Nat.le_succ _) (Op.mono (fun v u h => pkx_p (by rw [c5] <;> decide) h) (op_of (F := fun W => f_L_attribute 0 ((x / (24 : Int32)) - (x / (24 : Int32)) / nI m * nI m) (((x / (24 : Int32)) / (61 : Int32)) - ((x / (24 : Int32)) / (61 : Int32)) / (4 : Int32) * (4 : Int32)) (((x / (24 : Int32)) / (244 : Int32)) - ((x / (24 : Int32)) / (244 : Int32)) / (5 : Int32) * (5 : Int32)) W) (fun hE ht => y_L_attribute ht hE) (tw_attribute g)))
  by_cases c6 : x - x / (24 : Int32) * (24 : Int32) = (6 : Int32)
  · by_cases q0 : ((x / (24 : Int32)) - (x / (24 : Int32)) / (3 : Int32) * (3 : Int32)) = 0
    · refine Op.cg (A' := fun a H => f_L_remove a (((x / (24 : Int32)) / (3 : Int32)) - ((x / (24 : Int32)) / (3 : Int32)) / nI m * nI m) H) (fun W2 g2 hR r d H h => ?_) g ?_
      · obtain ⟨i1, i2, i3, -⟩ := R W2 g2 hR r d H h
        simp only [f_L_act, i1, i2, i3, hz, hz1, p9, eq_true q0, eq_true c6, c0, c1, c2, c3, c4, c5, Option.bind_some, tq_let, if_true, if_false, bs2]
      · exact Op.up (Nat.le_succ _) (Op.mono (fun v u h => pkx_p (by rw [c6] <;> decide) h) (op_of (F := fun W => f_L_remove 0 (((x / (24 : Int32)) / (3 : Int32)) - ((x / (24 : Int32)) / (3 : Int32)) / nI m * nI m) W) (fun hE ht => y_L_remove ht hE) (tw_remove g)))
    · refine Op.cg (A' := fun a H => f_L_rename a ((x / (24 : Int32)) - (x / (24 : Int32)) / nI m * nI m) (((x / (24 : Int32)) / (61 : Int32)) - ((x / (24 : Int32)) / (61 : Int32)) / (4 : Int32) * (4 : Int32)) H) (fun W2 g2 hR r d H h => ?_) g ?_
      · obtain ⟨i1, i2, i3, -⟩ := R W2 g2 hR r d H h
        simp only [f_L_act, i1, i2, i3, hz, hz1, p9, q0, eq_true c6, c0, c1, c2, c3, c4, c5, Option.bind_some, tq_let, if_true, if_false, bs2]
      · exact Op.up (Nat.le_succ _) (Op.mono (fun v u h => pkx_p (by rw [c6] <;> decide) h) (op_of (F := fun W => f_L_rename 0 ((x / (24 : Int32)) - (x / (24 : Int32)) / nI m * nI m) (((x / (24 : Int32)) / (61 : Int32)) - ((x / (24 : Int32)) / (61 : Int32)) / (4 : Int32) * (4 : Int32)) W) (fun hE ht => y_L_rename ht hE) (tw_rename g)))
  by_cases c7 : x - x / (24 : Int32) * (24 : Int32) = (7 : Int32)
  · by_cases q0 : ((x / (24 : Int32)) - (x / (24 : Int32)) / (2 : Int32) * (2 : Int32)) = 0
    · refine Op.cg (A' := fun a H => f_L_revalue a (((x / (24 : Int32)) / (2 : Int32)) - ((x / (24 : Int32)) / (2 : Int32)) / nI m * nI m) (((x / (24 : Int32)) / (61 : Int32)) - ((x / (24 : Int32)) / (61 : Int32)) / (4 : Int32) * (4 : Int32)) H) (fun W2 g2 hR r d H h => ?_) g ?_
      · obtain ⟨i1, i2, i3, -⟩ := R W2 g2 hR r d H h
        simp only [f_L_act, i1, i2, i3, hz, hz1, p9, eq_true q0, eq_true c7, c0, c1, c2, c3, c4, c5, c6, Option.bind_some, tq_let, if_true, if_false, bs2]
      · exact Op.up (Nat.le_succ _) (Op.mono (fun v u h => pkx_p (by rw [c7] <;> decide) h) (op_of (F := fun W => f_L_revalue 0 (((x / (24 : Int32)) / (2 : Int32)) - ((x / (24 : Int32)) / (2 : Int32)) / nI m * nI m) (((x / (24 : Int32)) / (61 : Int32)) - ((x / (24 : Int32)) / (61 : Int32)) / (4 : Int32) * (4 : Int32)) W) (fun hE ht => y_L_revalue ht hE) (tw_revalue g)))
    · refine Op.cg (A' := fun a H => f_L_declare a ((x / (24 : Int32)) - (x / (24 : Int32)) / nI m * nI m) ((((x / (24 : Int32)) / (61 : Int32)) - ((x / (24 : Int32)) / (61 : Int32)) / (4 : Int32) * (4 : Int32)) - (1 : Int32)) H) (fun W2 g2 hR r d H h => ?_) g ?_
      · obtain ⟨i1, i2, i3, -⟩ := R W2 g2 hR r d H h
        simp only [f_L_act, i1, i2, i3, hz, hz1, p9, q0, eq_true c7, c0, c1, c2, c3, c4, c5, c6, Option.bind_some, tq_let, if_true, if_false, bs2]
      · exact Op.up (Nat.le_succ _) (Op.mono (fun v u h => pkx_p (by rw [c7] <;> decide) h) (op_of (F := fun W => f_L_declare 0 ((x / (24 : Int32)) - (x / (24 : Int32)) / nI m * nI m) ((((x / (24 : Int32)) / (61 : Int32)) - ((x / (24 : Int32)) / (61 : Int32)) / (4 : Int32) * (4 : Int32)) - (1 : Int32)) W) (fun hE ht => y_L_declare ht hE) (tw_declare g)))
  by_cases c8 : x - x / (24 : Int32) * (24 : Int32) = (8 : Int32)
  · refine Op.cg (A' := fun a H => f_L_move a ((x / (24 : Int32)) - (x / (24 : Int32)) / nI m * nI m) (((x / (24 : Int32)) / (61 : Int32)) - ((x / (24 : Int32)) / (61 : Int32)) / nI m * nI m) (((x / (24 : Int32)) / (3721 : Int32)) - ((x / (24 : Int32)) / (3721 : Int32)) / (2 : Int32) * (2 : Int32)) H) (fun W2 g2 hR r d H h => ?_) g ?_
    · obtain ⟨i1, i2, i3, -⟩ := R W2 g2 hR r d H h
      simp only [f_L_act, i1, i2, i3, hz, hz1, p9, eq_true c8, c0, c1, c2, c3, c4, c5, c6, c7, Option.bind_some, tq_let, if_true, if_false, bs2]
    · exact Op.up (Nat.le_succ _) (Op.mono (fun v u h => pkx_p (by rw [c8] <;> decide) h) (op_of (F := fun W => f_L_move 0 ((x / (24 : Int32)) - (x / (24 : Int32)) / nI m * nI m) (((x / (24 : Int32)) / (61 : Int32)) - ((x / (24 : Int32)) / (61 : Int32)) / nI m * nI m) (((x / (24 : Int32)) / (3721 : Int32)) - ((x / (24 : Int32)) / (3721 : Int32)) / (2 : Int32) * (2 : Int32)) W) (fun hE ht => y_L_move ht hE) (tw_move g)))
  by_cases c9 : x - x / (24 : Int32) * (24 : Int32) = (9 : Int32)
  · refine Op.cg (A' := fun a H => (f_L_apply a H).bind fun o => (fun (v : Int32) a H => if v = (-2000000003 : Int32) then (tq_is H a 10).bind fun _ => (f_X10_forget a H).bind fun w => some ((-9 : Int32) - w.1, w.2) else some (v, H)) o.1 a o.2) (fun W2 g2 hR r d H h => ?_) g ?_
    · obtain ⟨i1, i2, i3, -⟩ := R W2 g2 hR r d H h
      simp only [f_L_act, i1, i2, i3, hz, p9, eq_true c9, c0, c1, c2, c3, c4, c5, c6, c7, c8, Option.bind_some, tq_let, if_true, if_false, bs2]
    · exact Op.mono (fun v u h => pkx_a (by rw [c9] <;> decide) (by rw [c9] <;> decide) h) (op_apply g hk)
  by_cases c10 : x - x / (24 : Int32) * (24 : Int32) = (10 : Int32)
  · refine Op.cg (A' := fun a H => (f_L_apply a H).bind fun o => (fun (v : Int32) a H => if v = (-2000000003 : Int32) then (tq_is H a 10).bind fun _ => (f_X10_forget a H).bind fun w => some ((-9 : Int32) - w.1, w.2) else some (v, H)) o.1 a o.2) (fun W2 g2 hR r d H h => ?_) g ?_
    · obtain ⟨i1, i2, i3, -⟩ := R W2 g2 hR r d H h
      simp only [f_L_act, i1, i2, i3, hz, p9, eq_true c10, c0, c1, c2, c3, c4, c5, c6, c7, c8, c9, Option.bind_some, tq_let, if_true, if_false, bs2]
    · exact Op.mono (fun v u h => pkx_a (by rw [c10] <;> decide) (by rw [c10] <;> decide) h) (op_apply g hk)
  by_cases c11 : x - x / (24 : Int32) * (24 : Int32) = (11 : Int32)
  · refine Op.cg (A' := fun a H => (f_L_apply a H).bind fun o => (fun (v : Int32) a H => if v = (-2000000003 : Int32) then (tq_is H a 10).bind fun _ => (f_X10_forget a H).bind fun w => some ((-9 : Int32) - w.1, w.2) else some (v, H)) o.1 a o.2) (fun W2 g2 hR r d H h => ?_) g ?_
    · obtain ⟨i1, i2, i3, -⟩ := R W2 g2 hR r d H h
      simp only [f_L_act, i1, i2, i3, hz, p9, eq_true c11, c0, c1, c2, c3, c4, c5, c6, c7, c8, c9, c10, Option.bind_some, tq_let, if_true, if_false, bs2]
    · exact Op.mono (fun v u h => pkx_a (by rw [c11] <;> decide) (by rw [c11] <;> decide) h) (op_apply g hk)
  by_cases c12 : x - x / (24 : Int32) * (24 : Int32) = (12 : Int32)
  · refine Op.cg (A' := fun a H => (f_L_apply a H).bind fun o => (fun (v : Int32) a H => if v = (-2000000003 : Int32) then (tq_is H a 10).bind fun _ => (f_X10_forget a H).bind fun w => some ((-9 : Int32) - w.1, w.2) else some (v, H)) o.1 a o.2) (fun W2 g2 hR r d H h => ?_) g ?_
    · obtain ⟨i1, i2, i3, -⟩ := R W2 g2 hR r d H h
      simp only [f_L_act, i1, i2, i3, hz, p9, eq_true c12, c0, c1, c2, c3, c4, c5, c6, c7, c8, c9, c10, c11, Option.bind_some, tq_let, if_true, if_false, bs2]
    · exact Op.mono (fun v u h => pkx_a (by rw [c12] <;> decide) (by rw [c12] <;> decide) h) (op_apply g hk)
  by_cases c13 : x - x / (24 : Int32) * (24 : Int32) = (13 : Int32)
  · refine Op.cg (A' := fun a H => f_L_path a H) (fun W2 g2 hR r d H h => ?_) g ?_
    · obtain ⟨i1, i2, i3, -⟩ := R W2 g2 hR r d H h
      simp only [f_L_act, i1, i2, i3, hz, hz1, p9, eq_true c13, c0, c1, c2, c3, c4, c5, c6, c7, c8, c9, c10, c11, c12, Option.bind_some, tq_let, if_true, if_false, bs2]
    · exact Op.up (Nat.le_succ _) (Op.mono (fun v u h => pkx_o (by rw [c13] <;> decide) h) (op_of (F := fun W => f_L_path 0 W) (fun hE ht => y_L_path ht hE) (tw_path g)))
  by_cases c14 : x - x / (24 : Int32) * (24 : Int32) = (14 : Int32)
  · refine Op.cg (A' := fun a H => f_L_step a (nI t) ((x / (24 : Int32)) - (x / (24 : Int32)) / (12 : Int32) * (12 : Int32)) (if (((x / (24 : Int32)) / (12 : Int32)) - ((x / (24 : Int32)) / (12 : Int32)) / (3 : Int32) * (3 : Int32)) = 0 then (((x / (24 : Int32)) / (36 : Int32)) - ((x / (24 : Int32)) / (36 : Int32)) / (14 : Int32) * (14 : Int32)) else (8 : Int32)) (-1 : Int32) H) (fun W2 g2 hR r d H h => ?_) g ?_
    · obtain ⟨i1, i2, i3, -⟩ := R W2 g2 hR r d H h
      simp only [f_L_act, i1, i2, i3, hz, hz1, p9, eq_true c14, c0, c1, c2, c3, c4, c5, c6, c7, c8, c9, c10, c11, c12, c13, Option.bind_some, tq_let, if_true, if_false, bs2]
    · exact Op.up (Nat.le_succ _) (Op.mono (fun v u h => pkx_o (by rw [c14] <;> decide) h) (op_of (F := fun W => f_L_step 0 (nI t) ((x / (24 : Int32)) - (x / (24 : Int32)) / (12 : Int32) * (12 : Int32)) (if (((x / (24 : Int32)) / (12 : Int32)) - ((x / (24 : Int32)) / (12 : Int32)) / (3 : Int32) * (3 : Int32)) = 0 then (((x / (24 : Int32)) / (36 : Int32)) - ((x / (24 : Int32)) / (36 : Int32)) / (14 : Int32) * (14 : Int32)) else (8 : Int32)) (-1 : Int32) W) (fun hE ht => y_L_step ht hE) (tw_step g)))
  by_cases c15 : x - x / (24 : Int32) * (24 : Int32) = (15 : Int32)
  · refine Op.cg (A' := fun a H => f_L_step a (nI t) ((x / (24 : Int32)) - (x / (24 : Int32)) / (12 : Int32) * (12 : Int32)) (if (((x / (24 : Int32)) / (12 : Int32)) - ((x / (24 : Int32)) / (12 : Int32)) / (3 : Int32) * (3 : Int32)) = 0 then (((x / (24 : Int32)) / (36 : Int32)) - ((x / (24 : Int32)) / (36 : Int32)) / (14 : Int32) * (14 : Int32)) else (8 : Int32)) (-1 : Int32) H) (fun W2 g2 hR r d H h => ?_) g ?_
    · obtain ⟨i1, i2, i3, -⟩ := R W2 g2 hR r d H h
      simp only [f_L_act, i1, i2, i3, hz, hz1, p9, eq_true c15, c0, c1, c2, c3, c4, c5, c6, c7, c8, c9, c10, c11, c12, c13, c14, Option.bind_some, tq_let, if_true, if_false, bs2]
    · exact Op.up (Nat.le_succ _) (Op.mono (fun v u h => pkx_o (by rw [c15] <;> decide) h) (op_of (F := fun W => f_L_step 0 (nI t) ((x / (24 : Int32)) - (x / (24 : Int32)) / (12 : Int32) * (12 : Int32)) (if (((x / (24 : Int32)) / (12 : Int32)) - ((x / (24 : Int32)) / (12 : Int32)) / (3 : Int32) * (3 : Int32)) = 0 then (((x / (24 : Int32)) / (36 : Int32)) - ((x / (24 : Int32)) / (36 : Int32)) / (14 : Int32) * (14 : Int32)) else (8 : Int32)) (-1 : Int32) W) (fun hE ht => y_L_step ht hE) (tw_step g)))
  by_cases c16 : x - x / (24 : Int32) * (24 : Int32) = (16 : Int32)
  · by_cases q0 : ((x / (24 : Int32)) - (x / (24 : Int32)) / (2 : Int32) * (2 : Int32)) = 0
    · refine Op.cg (A' := fun a H => f_L_place a (nI t) (((x / (24 : Int32)) / (2 : Int32)) - ((x / (24 : Int32)) / (2 : Int32)) / (3 : Int32) * (3 : Int32)) ((1 : Int32) + (((x / (24 : Int32)) / (6 : Int32)) - ((x / (24 : Int32)) / (6 : Int32)) / (3 : Int32) * (3 : Int32))) H) (fun W2 g2 hR r d H h => ?_) g ?_
      · obtain ⟨i1, i2, i3, -⟩ := R W2 g2 hR r d H h
        simp only [f_L_act, i1, i2, i3, hz, hz1, p9, eq_true q0, eq_true c16, c0, c1, c2, c3, c4, c5, c6, c7, c8, c9, c10, c11, c12, c13, c14, c15, Option.bind_some, tq_let, if_true, if_false, bs2]
      · exact Op.up (Nat.le_succ _) (Op.mono (fun v u h => pkx_o (by rw [c16] <;> decide) h) (op_of (F := fun W => f_L_place 0 (nI t) (((x / (24 : Int32)) / (2 : Int32)) - ((x / (24 : Int32)) / (2 : Int32)) / (3 : Int32) * (3 : Int32)) ((1 : Int32) + (((x / (24 : Int32)) / (6 : Int32)) - ((x / (24 : Int32)) / (6 : Int32)) / (3 : Int32) * (3 : Int32))) W) (fun hE ht => y_L_place ht hE) (tw_place g)))
    · refine Op.cg (A' := fun a H => f_L_has a (nI t) (((x / (24 : Int32)) / (2 : Int32)) - ((x / (24 : Int32)) / (2 : Int32)) / (nI t + (1 : Int32)) * (nI t + (1 : Int32))) (if (((x / (24 : Int32)) / (97 : Int32)) - ((x / (24 : Int32)) / (97 : Int32)) / (2 : Int32) * (2 : Int32)) = 0 then (1 : Int32) else (0 : Int32)) H) (fun W2 g2 hR r d H h => ?_) g ?_
      · obtain ⟨i1, i2, i3, -⟩ := R W2 g2 hR r d H h
        simp only [f_L_act, i1, i2, i3, hz, hz1, p9, q0, eq_true c16, c0, c1, c2, c3, c4, c5, c6, c7, c8, c9, c10, c11, c12, c13, c14, c15, Option.bind_some, tq_let, if_true, if_false, bs2]
      · exact Op.up (Nat.le_succ _) (Op.mono (fun v u h => pkx_o (by rw [c16] <;> decide) h) (op_of (F := fun W => f_L_has 0 (nI t) (((x / (24 : Int32)) / (2 : Int32)) - ((x / (24 : Int32)) / (2 : Int32)) / (nI t + (1 : Int32)) * (nI t + (1 : Int32))) (if (((x / (24 : Int32)) / (97 : Int32)) - ((x / (24 : Int32)) / (97 : Int32)) / (2 : Int32) * (2 : Int32)) = 0 then (1 : Int32) else (0 : Int32)) W) (fun hE ht => y_L_has ht hE) (tw_has g (bo01 _))))
  by_cases c17 : x - x / (24 : Int32) * (24 : Int32) = (17 : Int32)
  · by_cases q0 : ((x / (24 : Int32)) - (x / (24 : Int32)) / (3 : Int32) * (3 : Int32)) = 0
    · refine Op.cg (A' := fun a H => f_L_last a (nI t) H) (fun W2 g2 hR r d H h => ?_) g ?_
      · obtain ⟨i1, i2, i3, -⟩ := R W2 g2 hR r d H h
        simp only [f_L_act, i1, i2, i3, hz, hz1, p9, eq_true q0, eq_true c17, c0, c1, c2, c3, c4, c5, c6, c7, c8, c9, c10, c11, c12, c13, c14, c15, c16, Option.bind_some, tq_let, if_true, if_false, bs2]
      · exact Op.up (Nat.le_succ _) (Op.mono (fun v u h => pkx_o (by rw [c17] <;> decide) h) (op_of (F := fun W => f_L_last 0 (nI t) W) (fun hE ht => y_L_last ht hE) (tw_last g)))
    · by_cases q1 : ((x / (24 : Int32)) - (x / (24 : Int32)) / (3 : Int32) * (3 : Int32)) = (1 : Int32)
      · by_cases q2 : nI t = 0
        · refine Op.cg (A' := fun a H => f_L_step a (nI t) (12 : Int32) (8 : Int32) (0 : Int32) H) (fun W2 g2 hR r d H h => ?_) g ?_
          · obtain ⟨i1, i2, i3, -⟩ := R W2 g2 hR r d H h
            simp only [f_L_act, i1, i2, i3, hz, hz1, p9, q0, eq_true q1, eq_true q2, eq_true c17, c0, c1, c2, c3, c4, c5, c6, c7, c8, c9, c10, c11, c12, c13, c14, c15, c16, Option.bind_some, tq_let, if_true, if_false, bs2]
          · exact Op.up (Nat.le_succ _) (Op.mono (fun v u h => pkx_o (by rw [c17] <;> decide) h) (op_of (F := fun W => f_L_step 0 (nI t) (12 : Int32) (8 : Int32) (0 : Int32) W) (fun hE ht => y_L_step ht hE) (tw_step g)))
        · have hzt : tq_nz (nI t) = some () := nz_nI (by omega) (by rcases Nat.eq_zero_or_pos t with y | y; exact absurd (by rw [y]; rfl) q2; exact y)
          refine Op.cg (A' := fun a H => f_L_step a (nI t) (12 : Int32) (8 : Int32) (((x / (24 : Int32)) / (3 : Int32)) - ((x / (24 : Int32)) / (3 : Int32)) / nI t * nI t) H) (fun W2 g2 hR r d H h => ?_) g ?_
          · obtain ⟨i1, i2, i3, -⟩ := R W2 g2 hR r d H h
            simp only [f_L_act, i1, i2, i3, hz, hz1, p9, hzt, q0, eq_true q1, q2, eq_true c17, c0, c1, c2, c3, c4, c5, c6, c7, c8, c9, c10, c11, c12, c13, c14, c15, c16, Option.bind_some, tq_let, if_true, if_false, bs2]
          · exact Op.up (Nat.le_succ _) (Op.mono (fun v u h => pkx_o (by rw [c17] <;> decide) h) (op_of (F := fun W => f_L_step 0 (nI t) (12 : Int32) (8 : Int32) (((x / (24 : Int32)) / (3 : Int32)) - ((x / (24 : Int32)) / (3 : Int32)) / nI t * nI t) W) (fun hE ht => y_L_step ht hE) (tw_step g)))
      · by_cases q2 : nI t = 0
        · refine Op.cg (A' := fun a H => f_L_worth a (nI t) (0 : Int32) (((x / (24 : Int32)) / (7 : Int32)) - ((x / (24 : Int32)) / (7 : Int32)) / (3 : Int32) * (3 : Int32)) (((x / (24 : Int32)) / (21 : Int32)) - ((x / (24 : Int32)) / (21 : Int32)) / (4 : Int32) * (4 : Int32)) H) (fun W2 g2 hR r d H h => ?_) g ?_
          · obtain ⟨i1, i2, i3, -⟩ := R W2 g2 hR r d H h
            simp only [f_L_act, i1, i2, i3, hz, hz1, p9, q0, q1, eq_true q2, eq_true c17, c0, c1, c2, c3, c4, c5, c6, c7, c8, c9, c10, c11, c12, c13, c14, c15, c16, Option.bind_some, tq_let, if_true, if_false, bs2]
          · exact Op.up (Nat.le_succ _) (Op.mono (fun v u h => pkx_o (by rw [c17] <;> decide) h) (op_of (F := fun W => f_L_worth 0 (nI t) (0 : Int32) (((x / (24 : Int32)) / (7 : Int32)) - ((x / (24 : Int32)) / (7 : Int32)) / (3 : Int32) * (3 : Int32)) (((x / (24 : Int32)) / (21 : Int32)) - ((x / (24 : Int32)) / (21 : Int32)) / (4 : Int32) * (4 : Int32)) W) (fun hE ht => y_L_worth ht hE) (tw_worth g)))
        · have hzt : tq_nz (nI t) = some () := nz_nI (by omega) (by rcases Nat.eq_zero_or_pos t with y | y; exact absurd (by rw [y]; rfl) q2; exact y)
          refine Op.cg (A' := fun a H => f_L_worth a (nI t) (((x / (24 : Int32)) / (3 : Int32)) - ((x / (24 : Int32)) / (3 : Int32)) / nI t * nI t) (((x / (24 : Int32)) / (7 : Int32)) - ((x / (24 : Int32)) / (7 : Int32)) / (3 : Int32) * (3 : Int32)) (((x / (24 : Int32)) / (21 : Int32)) - ((x / (24 : Int32)) / (21 : Int32)) / (4 : Int32) * (4 : Int32)) H) (fun W2 g2 hR r d H h => ?_) g ?_
          · obtain ⟨i1, i2, i3, -⟩ := R W2 g2 hR r d H h
            simp only [f_L_act, i1, i2, i3, hz, hz1, p9, hzt, q0, q1, q2, eq_true c17, c0, c1, c2, c3, c4, c5, c6, c7, c8, c9, c10, c11, c12, c13, c14, c15, c16, Option.bind_some, tq_let, if_true, if_false, bs2]
          · exact Op.up (Nat.le_succ _) (Op.mono (fun v u h => pkx_o (by rw [c17] <;> decide) h) (op_of (F := fun W => f_L_worth 0 (nI t) (((x / (24 : Int32)) / (3 : Int32)) - ((x / (24 : Int32)) / (3 : Int32)) / nI t * nI t) (((x / (24 : Int32)) / (7 : Int32)) - ((x / (24 : Int32)) / (7 : Int32)) / (3 : Int32) * (3 : Int32)) (((x / (24 : Int32)) / (21 : Int32)) - ((x / (24 : Int32)) / (21 : Int32)) / (4 : Int32) * (4 : Int32)) W) (fun hE ht => y_L_worth ht hE) (tw_worth g)))
  by_cases c18 : x - x / (24 : Int32) * (24 : Int32) = (18 : Int32)
  · by_cases q0 : ((x / (24 : Int32)) - (x / (24 : Int32)) / (3 : Int32) * (3 : Int32)) = 0
    · refine Op.cg (A' := fun a H => f_L_nameType a (((x / (24 : Int32)) / (3 : Int32)) - ((x / (24 : Int32)) / (3 : Int32)) / (3 : Int32) * (3 : Int32)) (((x / (24 : Int32)) / (9 : Int32)) - ((x / (24 : Int32)) / (9 : Int32)) / (4 : Int32) * (4 : Int32)) H) (fun W2 g2 hR r d H h => ?_) g ?_
      · obtain ⟨i1, i2, i3, -⟩ := R W2 g2 hR r d H h
        simp only [f_L_act, i1, i2, i3, hz, hz1, p9, eq_true q0, eq_true c18, c0, c1, c2, c3, c4, c5, c6, c7, c8, c9, c10, c11, c12, c13, c14, c15, c16, c17, Option.bind_some, tq_let, if_true, if_false, bs2]
      · exact Op.up (Nat.le_succ _) (Op.mono (fun v u h => pkx_o (by rw [c18] <;> decide) h) (op_of (F := fun W => f_L_nameType 0 (((x / (24 : Int32)) / (3 : Int32)) - ((x / (24 : Int32)) / (3 : Int32)) / (3 : Int32) * (3 : Int32)) (((x / (24 : Int32)) / (9 : Int32)) - ((x / (24 : Int32)) / (9 : Int32)) / (4 : Int32) * (4 : Int32)) W) (fun hE ht => y_L_nameType ht hE) (tw_nameType g)))
    · by_cases q1 : ((x / (24 : Int32)) - (x / (24 : Int32)) / (3 : Int32) * (3 : Int32)) = (1 : Int32)
      · refine Op.cg (A' := fun a H => f_L_arc a (((x / (24 : Int32)) / (3 : Int32)) - ((x / (24 : Int32)) / (3 : Int32)) / (3 : Int32) * (3 : Int32)) (((x / (24 : Int32)) / (9 : Int32)) - ((x / (24 : Int32)) / (9 : Int32)) / (2 : Int32) * (2 : Int32)) (((x / (24 : Int32)) / (18 : Int32)) - ((x / (24 : Int32)) / (18 : Int32)) / (3 : Int32) * (3 : Int32)) (((x / (24 : Int32)) / (54 : Int32)) - ((x / (24 : Int32)) / (54 : Int32)) / (2 : Int32) * (2 : Int32)) H) (fun W2 g2 hR r d H h => ?_) g ?_
        · obtain ⟨i1, i2, i3, -⟩ := R W2 g2 hR r d H h
          simp only [f_L_act, i1, i2, i3, hz, hz1, p9, q0, eq_true q1, eq_true c18, c0, c1, c2, c3, c4, c5, c6, c7, c8, c9, c10, c11, c12, c13, c14, c15, c16, c17, Option.bind_some, tq_let, if_true, if_false, bs2]
        · exact Op.up (Nat.le_succ _) (Op.mono (fun v u h => pkx_o (by rw [c18] <;> decide) h) (op_of (F := fun W => f_L_arc 0 (((x / (24 : Int32)) / (3 : Int32)) - ((x / (24 : Int32)) / (3 : Int32)) / (3 : Int32) * (3 : Int32)) (((x / (24 : Int32)) / (9 : Int32)) - ((x / (24 : Int32)) / (9 : Int32)) / (2 : Int32) * (2 : Int32)) (((x / (24 : Int32)) / (18 : Int32)) - ((x / (24 : Int32)) / (18 : Int32)) / (3 : Int32) * (3 : Int32)) (((x / (24 : Int32)) / (54 : Int32)) - ((x / (24 : Int32)) / (54 : Int32)) / (2 : Int32) * (2 : Int32)) W) (fun hE ht => y_L_arc ht hE) (tw_arc g)))
      · refine Op.cg (A' := fun a H => f_L_fin a (((x / (24 : Int32)) / (3 : Int32)) - ((x / (24 : Int32)) / (3 : Int32)) / (3 : Int32) * (3 : Int32)) (((x / (24 : Int32)) / (9 : Int32)) - ((x / (24 : Int32)) / (9 : Int32)) / (2 : Int32) * (2 : Int32)) (if (((x / (24 : Int32)) / (18 : Int32)) - ((x / (24 : Int32)) / (18 : Int32)) / (2 : Int32) * (2 : Int32)) = 0 then (1 : Int32) else (0 : Int32)) H) (fun W2 g2 hR r d H h => ?_) g ?_
        · obtain ⟨i1, i2, i3, -⟩ := R W2 g2 hR r d H h
          simp only [f_L_act, i1, i2, i3, hz, hz1, p9, q0, q1, eq_true c18, c0, c1, c2, c3, c4, c5, c6, c7, c8, c9, c10, c11, c12, c13, c14, c15, c16, c17, Option.bind_some, tq_let, if_true, if_false, bs2]
        · exact Op.up (Nat.le_succ _) (Op.mono (fun v u h => pkx_o (by rw [c18] <;> decide) h) (op_of (F := fun W => f_L_fin 0 (((x / (24 : Int32)) / (3 : Int32)) - ((x / (24 : Int32)) / (3 : Int32)) / (3 : Int32) * (3 : Int32)) (((x / (24 : Int32)) / (9 : Int32)) - ((x / (24 : Int32)) / (9 : Int32)) / (2 : Int32) * (2 : Int32)) (if (((x / (24 : Int32)) / (18 : Int32)) - ((x / (24 : Int32)) / (18 : Int32)) / (2 : Int32) * (2 : Int32)) = 0 then (1 : Int32) else (0 : Int32)) W) (fun hE ht => y_L_fin ht hE) (tw_fin g (bo01 _))))
  by_cases c19 : x - x / (24 : Int32) * (24 : Int32) = (19 : Int32)
  · by_cases q0 : ((x / (24 : Int32)) - (x / (24 : Int32)) / (3 : Int32) * (3 : Int32)) = 0
    · refine Op.cg (A' := fun a H => f_L_texts a (((x / (24 : Int32)) / (3 : Int32)) - ((x / (24 : Int32)) / (3 : Int32)) / (3 : Int32) * (3 : Int32)) (if (((x / (24 : Int32)) / (9 : Int32)) - ((x / (24 : Int32)) / (9 : Int32)) / (2 : Int32) * (2 : Int32)) = 0 then (1 : Int32) else (0 : Int32)) H) (fun W2 g2 hR r d H h => ?_) g ?_
      · obtain ⟨i1, i2, i3, -⟩ := R W2 g2 hR r d H h
        simp only [f_L_act, i1, i2, i3, hz, hz1, p9, eq_true q0, eq_true c19, c0, c1, c2, c3, c4, c5, c6, c7, c8, c9, c10, c11, c12, c13, c14, c15, c16, c17, c18, Option.bind_some, tq_let, if_true, if_false, bs2]
      · exact Op.up (Nat.le_succ _) (Op.mono (fun v u h => pkx_o (by rw [c19] <;> decide) h) (op_of (F := fun W => f_L_texts 0 (((x / (24 : Int32)) / (3 : Int32)) - ((x / (24 : Int32)) / (3 : Int32)) / (3 : Int32) * (3 : Int32)) (if (((x / (24 : Int32)) / (9 : Int32)) - ((x / (24 : Int32)) / (9 : Int32)) / (2 : Int32) * (2 : Int32)) = 0 then (1 : Int32) else (0 : Int32)) W) (fun hE ht => y_L_texts ht hE) (tw_texts g (bo01 _))))
    · by_cases q1 : ((x / (24 : Int32)) - (x / (24 : Int32)) / (3 : Int32) * (3 : Int32)) = (1 : Int32)
      · refine Op.cg (A' := fun a H => f_L_says a (((x / (24 : Int32)) / (3 : Int32)) - ((x / (24 : Int32)) / (3 : Int32)) / (3 : Int32) * (3 : Int32)) (((x / (24 : Int32)) / (9 : Int32)) - ((x / (24 : Int32)) / (9 : Int32)) / (4 : Int32) * (4 : Int32)) (((x / (24 : Int32)) / (36 : Int32)) - ((x / (24 : Int32)) / (36 : Int32)) / (3 : Int32) * (3 : Int32)) H) (fun W2 g2 hR r d H h => ?_) g ?_
        · obtain ⟨i1, i2, i3, -⟩ := R W2 g2 hR r d H h
          simp only [f_L_act, i1, i2, i3, hz, hz1, p9, q0, eq_true q1, eq_true c19, c0, c1, c2, c3, c4, c5, c6, c7, c8, c9, c10, c11, c12, c13, c14, c15, c16, c17, c18, Option.bind_some, tq_let, if_true, if_false, bs2]
        · exact Op.up (Nat.le_succ _) (Op.mono (fun v u h => pkx_o (by rw [c19] <;> decide) h) (op_of (F := fun W => f_L_says 0 (((x / (24 : Int32)) / (3 : Int32)) - ((x / (24 : Int32)) / (3 : Int32)) / (3 : Int32) * (3 : Int32)) (((x / (24 : Int32)) / (9 : Int32)) - ((x / (24 : Int32)) / (9 : Int32)) / (4 : Int32) * (4 : Int32)) (((x / (24 : Int32)) / (36 : Int32)) - ((x / (24 : Int32)) / (36 : Int32)) / (3 : Int32) * (3 : Int32)) W) (fun hE ht => y_L_says ht hE) (tw_says g)))
      · refine Op.cg (A' := fun a H => f_L_strict a (if (((x / (24 : Int32)) / (3 : Int32)) - ((x / (24 : Int32)) / (3 : Int32)) / (2 : Int32) * (2 : Int32)) = 0 then (1 : Int32) else (0 : Int32)) H) (fun W2 g2 hR r d H h => ?_) g ?_
        · obtain ⟨i1, i2, i3, -⟩ := R W2 g2 hR r d H h
          simp only [f_L_act, i1, i2, i3, hz, hz1, p9, q0, q1, eq_true c19, c0, c1, c2, c3, c4, c5, c6, c7, c8, c9, c10, c11, c12, c13, c14, c15, c16, c17, c18, Option.bind_some, tq_let, if_true, if_false, bs2]
        · exact Op.up (Nat.le_succ _) (Op.mono (fun v u h => pkx_o (by rw [c19] <;> decide) h) (op_of (F := fun W => f_L_strict 0 (if (((x / (24 : Int32)) / (3 : Int32)) - ((x / (24 : Int32)) / (3 : Int32)) / (2 : Int32) * (2 : Int32)) = 0 then (1 : Int32) else (0 : Int32)) W) (fun hE ht => y_L_strict ht hE) (tw_strict g (bo01 _))))
  by_cases c20 : x - x / (24 : Int32) * (24 : Int32) = (20 : Int32)
  · refine Op.cg (A' := fun a H => f_L_index a (((x / (24 : Int32)) / (61 : Int32)) - ((x / (24 : Int32)) / (61 : Int32)) / (4 : Int32) * (4 : Int32)) H) (fun W2 g2 hR r d H h => ?_) g ?_
    · obtain ⟨i1, i2, i3, -⟩ := R W2 g2 hR r d H h
      simp only [f_L_act, i1, i2, i3, hz, hz1, p9, eq_true c20, c0, c1, c2, c3, c4, c5, c6, c7, c8, c9, c10, c11, c12, c13, c14, c15, c16, c17, c18, c19, Option.bind_some, tq_let, if_true, if_false, bs2]
    · exact Op.up (Nat.le_succ _) (Op.mono (fun v u h => pkx_o (by rw [c20] <;> decide) h) (op_of (F := fun W => f_L_index 0 (((x / (24 : Int32)) / (61 : Int32)) - ((x / (24 : Int32)) / (61 : Int32)) / (4 : Int32) * (4 : Int32)) W) (fun hE ht => y_L_index ht hE) (tw_index g)))
  by_cases c21 : x - x / (24 : Int32) * (24 : Int32) = (21 : Int32)
  · refine Op.cg (A' := fun a H => f_L_view a ((x / (24 : Int32)) - (x / (24 : Int32)) / (nI t + (1 : Int32)) * (nI t + (1 : Int32))) H) (fun W2 g2 hR r d H h => ?_) g ?_
    · obtain ⟨i1, i2, i3, -⟩ := R W2 g2 hR r d H h
      simp only [f_L_act, i1, i2, i3, hz, hz1, p9, eq_true c21, c0, c1, c2, c3, c4, c5, c6, c7, c8, c9, c10, c11, c12, c13, c14, c15, c16, c17, c18, c19, c20, Option.bind_some, tq_let, if_true, if_false, bs2]
    · exact Op.up (Nat.le_succ _) (Op.mono (fun v u h => pkx_o (by rw [c21] <;> decide) h) (op_of (F := fun W => f_L_view 0 ((x / (24 : Int32)) - (x / (24 : Int32)) / (nI t + (1 : Int32)) * (nI t + (1 : Int32))) W) (fun hE ht => y_L_view ht hE) (tw_view g)))
  by_cases c22 : x - x / (24 : Int32) * (24 : Int32) = (22 : Int32)
  · by_cases q0 : ((x / (24 : Int32)) - (x / (24 : Int32)) / (2 : Int32) * (2 : Int32)) = 0
    · refine Op.cg (A' := fun a H => f_L_keep a H) (fun W2 g2 hR r d H h => ?_) g ?_
      · obtain ⟨i1, i2, i3, -⟩ := R W2 g2 hR r d H h
        simp only [f_L_act, i1, i2, i3, hz, hz1, p9, eq_true q0, eq_true c22, c0, c1, c2, c3, c4, c5, c6, c7, c8, c9, c10, c11, c12, c13, c14, c15, c16, c17, c18, c19, c20, c21, Option.bind_some, tq_let, if_true, if_false, bs2]
      · exact Op.up (Nat.le_succ _) (Op.mono (fun v u h => pkx_o (by rw [c22] <;> decide) h) (op_of (F := fun W => f_L_keep 0 W) (fun hE ht => y_L_keep trivial ht hE) (tw_keep g)))
    · refine Op.cg (A' := fun a H => f_L_take a (((x / (24 : Int32)) / (2 : Int32)) - ((x / (24 : Int32)) / (2 : Int32)) / (3 : Int32) * (3 : Int32)) H) (fun W2 g2 hR r d H h => ?_) g ?_
      · obtain ⟨i1, i2, i3, -⟩ := R W2 g2 hR r d H h
        simp only [f_L_act, i1, i2, i3, hz, hz1, p9, q0, eq_true c22, c0, c1, c2, c3, c4, c5, c6, c7, c8, c9, c10, c11, c12, c13, c14, c15, c16, c17, c18, c19, c20, c21, Option.bind_some, tq_let, if_true, if_false, bs2]
      · exact Op.up (Nat.le_succ _) (Op.mono (fun v u h => pkx_o (by rw [c22] <;> decide) h) (op_of (F := fun W => f_L_take 0 (((x / (24 : Int32)) / (2 : Int32)) - ((x / (24 : Int32)) / (2 : Int32)) / (3 : Int32) * (3 : Int32)) W) (fun hE ht => y_L_take ht hE) (tw_take g)))
  have h23 : (13 : Int32) ≤ x - x / (24 : Int32) * (24 : Int32) := by
    obtain ⟨k, hk, e⟩ := hx
    have d0 : k ≠ 0 := fun y => c0 (by rw [e, y]; rfl)
    have d1 : k ≠ 1 := fun y => c1 (by rw [e, y]; rfl)
    have d2 : k ≠ 2 := fun y => c2 (by rw [e, y]; rfl)
    have d3 : k ≠ 3 := fun y => c3 (by rw [e, y]; rfl)
    have d4 : k ≠ 4 := fun y => c4 (by rw [e, y]; rfl)
    have d5 : k ≠ 5 := fun y => c5 (by rw [e, y]; rfl)
    have d6 : k ≠ 6 := fun y => c6 (by rw [e, y]; rfl)
    have d7 : k ≠ 7 := fun y => c7 (by rw [e, y]; rfl)
    have d8 : k ≠ 8 := fun y => c8 (by rw [e, y]; rfl)
    have d9 : k ≠ 9 := fun y => c9 (by rw [e, y]; rfl)
    have d10 : k ≠ 10 := fun y => c10 (by rw [e, y]; rfl)
    have d11 : k ≠ 11 := fun y => c11 (by rw [e, y]; rfl)
    have d12 : k ≠ 12 := fun y => c12 (by rw [e, y]; rfl)
    have d13 : k ≠ 13 := fun y => c13 (by rw [e, y]; rfl)
    have d14 : k ≠ 14 := fun y => c14 (by rw [e, y]; rfl)
    have d15 : k ≠ 15 := fun y => c15 (by rw [e, y]; rfl)
    have d16 : k ≠ 16 := fun y => c16 (by rw [e, y]; rfl)
    have d17 : k ≠ 17 := fun y => c17 (by rw [e, y]; rfl)
    have d18 : k ≠ 18 := fun y => c18 (by rw [e, y]; rfl)
    have d19 : k ≠ 19 := fun y => c19 (by rw [e, y]; rfl)
    have d20 : k ≠ 20 := fun y => c20 (by rw [e, y]; rfl)
    have d21 : k ≠ 21 := fun y => c21 (by rw [e, y]; rfl)
    have d22 : k ≠ 22 := fun y => c22 (by rw [e, y]; rfl)
    have : k = 23 := by omega
    rw [e, this]; decide
  by_cases q0 : ((x / (24 : Int32)) - (x / (24 : Int32)) / (2 : Int32) * (2 : Int32)) = 0
  · refine Op.cg (A' := fun a H => f_L_hide a (((x / (24 : Int32)) / (2 : Int32)) - ((x / (24 : Int32)) / (2 : Int32)) / (nI t + (1 : Int32)) * (nI t + (1 : Int32))) H) (fun W2 g2 hR r d H h => ?_) g ?_
    · obtain ⟨i1, i2, i3, -⟩ := R W2 g2 hR r d H h
      simp only [f_L_act, i1, i2, i3, hz, hz1, p9, eq_true q0, c0, c1, c2, c3, c4, c5, c6, c7, c8, c9, c10, c11, c12, c13, c14, c15, c16, c17, c18, c19, c20, c21, c22, Option.bind_some, tq_let, if_true, if_false, bs2]
    · exact Op.up (Nat.le_succ _) (Op.mono (fun v u h => pkx_o h23 h) (op_of (F := fun W => f_L_hide 0 (((x / (24 : Int32)) / (2 : Int32)) - ((x / (24 : Int32)) / (2 : Int32)) / (nI t + (1 : Int32)) * (nI t + (1 : Int32))) W) (fun hE ht => y_L_hide ht hE) (tw_hide g)))
  · refine Op.cg (A' := fun a H => (f_X10_readAsReader a (if (((x / (24 : Int32)) / (2 : Int32)) - ((x / (24 : Int32)) / (2 : Int32)) / (3 : Int32) * (3 : Int32)) = 0 then (1 : Int32) else (0 : Int32)) H).bind fun o => (fun (v : Int32) _ H => some (if v = 0 then (0 : Int32) else (1 : Int32), H)) o.1 a o.2) (fun W2 g2 hR r d H h => ?_) g ?_
    · obtain ⟨i1, i2, i3, -⟩ := R W2 g2 hR r d H h
      simp only [f_L_act, i1, i2, i3, hz, hz1, p9, q0, c0, c1, c2, c3, c4, c5, c6, c7, c8, c9, c10, c11, c12, c13, c14, c15, c16, c17, c18, c19, c20, c21, c22, Option.bind_some, tq_let, if_true, if_false, bs2]
      refine congrArg _ (funext fun o => ?_)
      by_cases q : o.1 = 0
      · simp only [q, if_true]
      · simp only [q, if_false]
    · refine Op.up (Nat.le_succ _) (Op.mono (PK := fun _ w => w = dk.2.2) (fun v u h => pkx_o h23 h) (Op.bind (B := fun (v : Int32) _ H => some (if v = 0 then (0 : Int32) else (1 : Int32), H)) (op_of (F := fun W => f_X10_readAsReader 0 (if (((x / (24 : Int32)) / (2 : Int32)) - ((x / (24 : Int32)) / (2 : Int32)) / (3 : Int32) * (3 : Int32)) = 0 then (1 : Int32) else (0 : Int32)) W) (fun hE ht => y_X10_readAsReader ht hE) (tw_reader g (bo01 _))) (fun v2 u2 W2 h2 g2 => Op.ret g2 h2) g))
end ACT
