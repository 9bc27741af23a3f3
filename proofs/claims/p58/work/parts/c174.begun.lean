/-! ===== the class at the start: its contents ===== -/
section TQC
variable {S : tq_H} {c c' : tc_C} {q k n t ci b : Nat}
theorem D0_wf : D0.wf := by
  refine ⟨⟨Nat.zero_lt_one, by decide⟩, fun i hi => by show (0 : Nat) < 60; decide, fun i j hi hj _ => ?_, rfl, fun i h0 hi => ?_, fun i hi => ?_, rfl, fun i j h1 h2 => ?_, fun i hi => .inl rfl, rfl, fun i h0 hi => rfl, fun i hi => .inr ⟨by show ¬ (0 : Int32) = 1; decide, 0, by decide, rfl⟩, fun i hi => .inl ⟨rfl, rfl⟩, fun i hi => .inl rfl⟩
  · have h1 : i < 1 := hi
    have h2 : j < 1 := hj
    omega
  · have h1 : i < 1 := hi
    omega
  · have h1 : i < 1 := hi
    show i < 1 ∧ 1 ≤ 1
    omega
  · have h1 : j < 1 := h2
    omega
theorem D0_ao : D0.ao := fun i j h0 h1 h2 _ _ => by
  have h3 : j < 1 := h2
  omega
theorem P0_wf : P0.wf := ⟨by show (0 : Nat) ≤ 20; decide, fun p hp => absurd hp (Nat.not_lt_zero _), fun p k hp _ => absurd hp (Nat.not_lt_zero _)⟩
theorem P0_c (h1 : c.2.2.1 98 9 = 0) (h2 : ∀ p, p < 20 → c.1 100 p = 0) (h3 : ∀ p, p < 100 → c.1 108 p = 0) : PC c 98 P0 := by
  refine ⟨h1, fun p hp => ?_, fun p k hp _ => absurd hp (Nat.not_lt_zero _), fun p k hp hk => ?_, fun p k d hp _ _ => absurd hp (Nat.not_lt_zero _)⟩
  · rw [h2 p hp, if_neg (show ¬ p < P0.n from Nat.not_lt_zero _)]; rfl
  · rw [h3 _ (by omega), if_neg (show ¬ (p < P0.n ∧ k < P0.sc p) from fun z => Nat.not_lt_zero _ z.1)]; rfl
theorem Nod0 (h1 : c.2.2.1 b 10 = 1) (h2 : c.1 (b + 23) 0 = 0) (h3 : c.1 (b + 25) 0 = 0) (h4 : c.1 (b + 27) 0 = -1) (h5 : c.1 (b + 29) 0 = -1) (h6 : c.1 (b + 31) 0 = -1) (h7 : c.1 (b + 35) 0 = -1) (h8 : c.1 (b + 37) 0 = -1) : Nod c b D0 1 := by
  have z : ∀ i, i < D0.n → i = 0 := fun i hi => by have : i < 1 := hi; omega
  refine ⟨by decide, fun i _ => Nat.zero_lt_one, h1, fun i hi => ?_, fun i hi => ?_, fun i hi => ?_, fun i hi => ?_, fun i hi => ?_, fun i hi => ?_, fun i hi => ?_⟩ <;> rw [z i hi]
  · exact h2
  · exact h3
  · exact h4
  · exact h5
  · rw [if_pos rfl]; exact h6
  · rw [if_neg (by show ¬ 0 + 1 < 1; omega)]; exact h7
  · rw [if_neg (fun w => absurd w.1 (Nat.lt_irrefl 0))]; exact h8
/-- what is made first -/
theorem make0 (hT : tc_Tree S b) (h10 : c.2.2.1 b 10 = 0) : f_X8_make b 0 0 (-1) (tc_mk S c) = some (0, tc_mk S (tc_I (tc_I (tc_I (tc_I (tc_I (tc_F c b 10 1) (b + 23) (upd (c.1 (b + 23)) 0 0)) (b + 25) (upd (c.1 (b + 25)) 0 0)) (b + 27) (upd (c.1 (b + 27)) 0 (-1))) (b + 29) (upd (c.1 (b + 29)) 0 (-1))) (b + 33) (upd (c.1 (b + 33)) 0 (-1)))) := by
  have r : ∀ (f : Nat → Int32) x, rs 60 f 0 x = upd f 0 x := fun f x => rs_in (k := 0) f x (by decide) (by decide)
  have e : (0 : Int32) + 1 = 1 := rfl
  simp (maxSteps := 3000000) (disch := omega) only [Option.bind_some, tc_bs, tq_let, tc_I1, tc_I2, tc_J1, tc_J2, tc_J3, tc_F1, tc_F2, tc_F3, tc_F4, tc_G1, tc_G2, tc_G3, tc_G4, tc_G5, tc_us, tc_un, s_one, s_holds, s_J13_bitCount, bz_bI, f_X8_make, hT.f, h10, e, r]
theorem tq_begun : ∃ c, f_X10_init H0.1 (hl H0 [.inl (10, [.null, .null, .null, .null, .null, .null, .null, .null, .null, .null, .null, .null, .int 0, .int 0, .int 0, .long 0, .long 0, .int 0, .int 0])]) = some (tc_mk S0 c) ∧
    Lay c 1 D0 ∧ Nod c 1 D0 1 ∧ c.1 34 0 = 16 ∧ FT c 117 D0 P0 D0.al 0 ∧ (∀ a, 41 ≤ a → a < 117 ∨ 124 ≤ a → c.1 a = (ctn S0).1 a) ∧ (∀ a, 41 ≤ a → a < 117 ∨ 124 ≤ a → c.2.2.1 a = (ctn S0).2.2.1 a) ∧
    (c.2.2.1 0 12 = 0 ∧ c.2.2.1 0 13 = 0 ∧ c.2.2.1 0 14 = 0 ∧ c.2.2.1 0 17 = 0 ∧ c.2.2.1 0 18 = 1) ∧ (c.2.2.2.1 0 15 = 0 ∧ c.2.2.2.1 0 16 = 0) ∧ c.2.2.2.2 = (ctn S0).2.2.2.2 := by
  have t0 : S0.2 0 = .inl (10, [.ref 1, .ref 41, .ref 81, .ref 98, .ref 117, .ref 124, .ref 131, .ref 148, .ref 149, .ref 151, .ref 153, .null, .int 0, .int 0, .int 0, .long 0, .long 0, .int 0, .int 0]) := at0 (k := 0) rfl
  obtain ⟨c0, ec0⟩ : ∃ c0, c0 = ctn S0 := ⟨_, rfl⟩
  have w0 : hl H0 tqE = tc_mk S0 c0 := by rw [ec0, tc_id]; rfl
  have p11 : tq_pf (hl H0 tqE) 0 10 11 .null = some (hl H0 tqE) := by
    rw [← tqE_eq]
    exact hl_pf H0 tqT 10 _ 11 .null (by decide)
  have f0 : ∀ q ci fs k x, S0.2 q = .inl (ci, fs) → fs[k]? = some (.int x) → c0.2.2.1 q k = x := fun q ci fs k x h1 h2 => by rw [ec0]; exact ctn_f h1 h2
  have a0 : ∀ k t n f, S0.2 k = .inr (t, (n, .inl f)) → c0.1 k = f := fun k t n f h => by rw [ec0]; exact ctn_a h
  obtain ⟨c1, e1⟩ : ∃ c1, c1 = tc_F (tc_F (tc_G (tc_G (tc_F (tc_F (tc_F c0 0 12 0) 0 13 0) 0 14 0) 0 15 0) 0 16 0) 0 17 0) 0 18 1 := ⟨_, rfl⟩
  have h10 : c1.2.2.1 1 10 = 0 := by
    rw [e1]
    exact f0 1 _ _ 10 0 (at0 (k := 1) rfl) rfl
  obtain ⟨c2, e2⟩ : ∃ c2, c2 = tc_I (tc_I (tc_I (tc_I (tc_I (tc_F c1 1 10 1) (1 + 23) (upd (c1.1 (1 + 23)) 0 0)) (1 + 25) (upd (c1.1 (1 + 25)) 0 0)) (1 + 27) (upd (c1.1 (1 + 27)) 0 (-1))) (1 + 29) (upd (c1.1 (1 + 29)) 0 (-1))) (1 + 33) (upd (c1.1 (1 + 33)) 0 (-1)) := ⟨_, rfl⟩
  have mk := make0 (S := S0) (c := c1) S0_t1 h10
  rw [← e2] at mk
  have r1 : ∀ k, k ≠ 24 → k ≠ 26 → k ≠ 28 → k ≠ 30 → k ≠ 34 → c2.1 k = c0.1 k := fun k h1 h2 h3 h4 h5 => by
    rw [e2, tc_I1, tc_un _ _ h5, tc_I1, tc_un _ _ h4, tc_I1, tc_un _ _ h3, tc_I1, tc_un _ _ h2, tc_I1, tc_un _ _ h1, e1]; rfl
  have r2 : ∀ q, q ≠ 0 → q ≠ 1 → c2.2.2.1 q = c0.2.2.1 q := fun q h0 h1 => by
    rw [e2]
    show tc_u c1.2.2.1 1 _ q = _
    rw [tc_un _ _ h1, e1]
    simp only [tc_F3, tc_G3, tc_un _ _ h0]
  have nod : Nod c2 1 D0 1 := by
    refine Nod0 ?_ ?_ ?_ ?_ ?_ ?_ ?_ ?_
    · rw [e2]; rfl
    · rw [e2]; rfl
    · rw [e2]; rfl
    · rw [e2]; rfl
    · rw [e2]; rfl
    · rw [r1 32 (by decide) (by decide) (by decide) (by decide) (by decide), a0 32 _ _ _ (at0 (k := 32) rfl)]; rfl
    · rw [r1 36 (by decide) (by decide) (by decide) (by decide) (by decide), a0 36 _ _ _ (at0 (k := 36) rfl)]; rfl
    · rw [r1 38 (by decide) (by decide) (by decide) (by decide) (by decide), a0 38 _ _ _ (at0 (k := 38) rfl)]; rfl
  obtain ⟨c3, l1, l2, l3, l4⟩ := s_X8_layOut (S := S0) S0_t1 D0_wf nod
  have n1 := s_X8_numberAnew (S := S0) S0_t1 D0_wf l2
  obtain ⟨c4, e4⟩ : ∃ c4, c4 = tc_I c3 (1 + 33) (D0.numF (c3.1 (1 + 33)) D0.n) := ⟨_, rfl⟩
  rw [← e4] at n1
  have L4 : Lay c4 1 D0 := l2.pt (fun a _ _ => by rw [e4, tc_I1, tc_un _ _ (by omega)]) (fun a _ _ => by rw [e4]; rfl) (by rw [e4]; rfl) (by rw [e4]; rfl) (by rw [e4]; rfl)
  have N4 : Nod c4 1 D0 1 := by
    rw [e4]
    obtain ⟨m1, m2, m3, m4, m5, m6, m7, m8, m9, m10⟩ := l3
    exact ⟨m1, m2, m3, m4, m5, m6, m7, m8, m9, m10⟩
  have ev := s_X3_everything (S := S0) S0_t1 D0_wf L4
  obtain ⟨o1, o2, o3, o4, o5⟩ := l4
  have u1 : ∀ k, 41 ≤ k → c4.1 k = c0.1 k := fun k hk => by rw [e4, tc_I1, tc_un _ _ (by omega), o1 k (by omega), r1 k (by omega) (by omega) (by omega) (by omega) (by omega)]
  have u2 : ∀ q, 3 ≤ q → c4.2.2.1 q = c0.2.2.1 q := fun q hq => by rw [e4]; show c3.2.2.1 q = _; rw [o3 q (by omega), r2 q (by omega) (by omega)]
  have P4 : PC c4 98 P0 := by
    refine P0_c ?_ (fun p hp => ?_) (fun p hp => ?_)
    · rw [u2 98 (by omega)]; exact f0 98 _ _ 9 0 (at0 (k := 98) rfl) rfl
    · rw [u1 100 (by omega), a0 100 _ _ _ (at0 (k := 100) rfl)]; exact if_pos hp
    · rw [u1 108 (by omega), a0 108 _ _ _ (at0 (k := 108) rfl)]; exact if_pos hp
  obtain ⟨c5, s1, s2, s3⟩ := s_X2_start (S := S0) S0_f1 (by decide) S0_t1 D0_wf L4 N4 P4 D0.al
  have ev : f_X3_everything 2 (tc_mk S0 c4) = some (mkS D0.al) := ev
  obtain ⟨k1, k2, k3, k4, k5⟩ := id s3
  have z0 : ∀ k, c5.2.2.1 0 k = c1.2.2.1 0 k := fun k => by
    rw [k3 0 (by omega), e4]
    show c3.2.2.1 0 k = _
    rw [o3 0 (by omega), e2]
    rfl
  have z1 : ∀ k, c5.2.2.2.1 0 k = c1.2.2.2.1 0 k := fun k => by
    rw [k4 0 (by omega), e4]
    show c3.2.2.2.1 0 k = _
    rw [o4 0 (by omega), e2]
    rfl
  refine ⟨c5, ?_, L4.kp s3 (by omega), N4.kp s3 (by omega), ?_, s2, fun a h1 h2 => ?_, fun a h1 h2 => ?_, ⟨?_, ?_, ?_, ?_, ?_⟩, ⟨?_, ?_⟩, ?_⟩
  · have g0 : ∀ c, tq_gr (tc_mk S0 c) 0 10 0 = some 1 := fun _ => tc_gr t0 rfl
    have g4 : ∀ c, tq_gr (tc_mk S0 c) 0 10 4 = some 117 := fun _ => tc_gr t0 rfl
    have g8 : ∀ c, tq_gr (tc_mk S0 c) 1 8 0 = some 2 := fun _ => tc_gr S0_t1.1 rfl
    have i8 : ∀ c, tq_is (tc_mk S0 c) 1 8 = some () := fun _ => tc_is S0_t1.1
    have i3 : ∀ c, tq_is (tc_mk S0 c) 2 3 = some () := fun _ => tc_is S0_t1.2.1
    have i2 : ∀ c, tq_is (tc_mk S0 c) 117 2 = some () := fun _ => tc_is S0_f1.1
    have q12 : ∀ c x, tq_pf (tc_mk S0 c) 0 10 12 (.int x) = some (tc_mk S0 (tc_F c 0 12 x)) := fun _ _ => tc_pfI t0 rfl
    have q13 : ∀ c x, tq_pf (tc_mk S0 c) 0 10 13 (.int x) = some (tc_mk S0 (tc_F c 0 13 x)) := fun _ _ => tc_pfI t0 rfl
    have q14 : ∀ c x, tq_pf (tc_mk S0 c) 0 10 14 (.int x) = some (tc_mk S0 (tc_F c 0 14 x)) := fun _ _ => tc_pfI t0 rfl
    have q15 : ∀ c x, tq_pf (tc_mk S0 c) 0 10 15 (.long x) = some (tc_mk S0 (tc_G c 0 15 x)) := fun _ _ => tc_pfL t0 rfl
    have q16 : ∀ c x, tq_pf (tc_mk S0 c) 0 10 16 (.long x) = some (tc_mk S0 (tc_G c 0 16 x)) := fun _ _ => tc_pfL t0 rfl
    have q17 : ∀ c x, tq_pf (tc_mk S0 c) 0 10 17 (.int x) = some (tc_mk S0 (tc_F c 0 17 x)) := fun _ _ => tc_pfI t0 rfl
    have q18 : ∀ c x, tq_pf (tc_mk S0 c) 0 10 18 (.int x) = some (tc_mk S0 (tc_F c 0 18 x)) := fun _ _ => tc_pfI t0 rfl
    rw [tq_made, tqE_eq]
    unfold rest10
    rw [p11, Option.bind_some, w0]
    simp only [q12, q13, q14, q15, q16, q17, q18, Option.bind_some]
    rw [← e1]
    simp only [g0, g4, g8, i8, i3, i2, mk, l1, n1, ev, s1, Option.bind_some]
  · rw [k1 34 (by omega), e4, tc_I1, tc_us]
    exact (D0.numF_at D0_wf _ (j := 0) Nat.zero_lt_one D0.n (Nat.le_refl _)).trans (by rw [if_pos ⟨Nat.zero_lt_one, by show ¬ (0 : Int32) = 2; decide⟩]; rfl)
  · rw [k1 a (by omega), u1 a h1, ec0]
  · rw [k3 a (by omega), u2 a (by omega), ec0]
  · rw [z0, e1]; rfl
  · rw [z0, e1]; rfl
  · rw [z0, e1]; rfl
  · rw [z0, e1]; rfl
  · rw [z0, e1]; rfl
  · rw [z1, e1]; rfl
  · rw [z1, e1]; rfl
  · rw [k5, e4]
    show c3.2.2.2.2 = _
    rw [o5, e2]
    show c1.2.2.2.2 = _
    rw [e1, ← ec0]
    rfl
end TQC
