/-! ===== one list grows ===== -/
def seF (F : Nat → List Nat) (E : Nat) (P : List Nat) : Nat → List Nat := fun u => if u = E then P else F u
/-- what stands while the links are made -/
abbrev LC (S : tq_H) (c : tc_C) (b e g m : Nat) (D : Doc) (U : Ups) (N0 : Nat → Int32) : Prop :=
  (tc_Tree S b ∧ tc_Tree S e ∧ tc_Upd S g) ∧ (e + 40 ≤ b ∧ b + 40 ≤ g) ∧ (D.wf ∧ U.wf m D ∧ U.ok ∧ m + U.ins U.n ≤ 60) ∧ Lay c e D ∧ UC c g U ∧ CH c b g m D U N0 U.n
section LEL
variable {S : tq_H} {c c' c'' : tc_C} {b e g m i j k v K E : Nat} {U : Ups} {D : Doc} {N0 : Nat → Int32} {F0 : Nat → List Nat} {P : List Nat}
theorem Lf.kp (h : Lf b c c') : Kp b (b + 40) c c' := by
  obtain ⟨h1, h2⟩ := h
  refine ⟨fun a z => h1 a (by omega) (by omega) (by omega) (by omega), fun a z => ?_, fun a z => ?_, fun a z => ?_, ?_⟩ <;> rw [h2]
theorem LC.lf (h : LC S c b e g m D U N0) (hl : Lf b c c') : LC S c' b e g m D U N0 := by
  obtain ⟨h1, h2, h3, h4, h5, h6⟩ := h
  have hk := hl.kp
  refine ⟨h1, h2, h3, h4.kp hk (by omega), ?_, ?_⟩
  · obtain ⟨l1, l2⟩ := hl
    unfold UC
    rw [l2, l1 (g + 2) (by omega) (by omega) (by omega) (by omega), l1 (g + 4) (by omega) (by omega) (by omega) (by omega), l1 (g + 6) (by omega) (by omega) (by omega) (by omega), l1 (g + 8) (by omega) (by omega) (by omega) (by omega), l1 (g + 10) (by omega) (by omega) (by omega) (by omega), l1 (g + 12) (by omega) (by omega) (by omega) (by omega), l1 (g + 14) (by omega) (by omega) (by omega) (by omega)]
    exact h5
  · obtain ⟨l1, l2⟩ := hl
    unfold CH
    rw [l2, l1 (b + 23) (by omega) (by omega) (by omega) (by omega), l1 (b + 25) (by omega) (by omega) (by omega) (by omega), l1 (b + 27) (by omega) (by omega) (by omega) (by omega), l1 (b + 29) (by omega) (by omega) (by omega) (by omega), l1 (b + 33) (by omega) (by omega) (by omega) (by omega), l1 (g + 16) (by omega) (by omega) (by omega) (by omega)]
    exact h6
theorem snF_seF : snF (seF F0 E P) E v = seF F0 E (P ++ [v]) := by
  funext u
  unfold snF seF
  by_cases q : u = E
  · rw [if_pos q, if_pos q, if_pos rfl]
  · rw [if_neg q, if_neg q, if_neg q]
/-- one more at the end of the list that grows -/
theorem LC.app (h : LC S c b e g m D U N0) (hF : ∀ u, F0 u = [] ∨ F0 u = U.F m D u) (hL : Lnk c b (seF F0 E P)) (hp : P ++ [v] <+: U.F m D E) :
    ∃ c', f_X8_append b (nI E) (nI v) (tc_mk S c) = some (tc_mk S c') ∧ Lnk c' b (seF F0 E (P ++ [v])) ∧ Lf b c c' := by
  obtain ⟨⟨hT, -, -⟩, -, ⟨hw, hu, hk, hr⟩, -⟩ := h
  have hf := U.frs hw hu hk hr
  have hsub : ∀ u w, w ∈ seF F0 E P u → w ∈ U.F m D u := fun u w hw2 => by
    unfold seF at hw2
    by_cases q : u = E
    · rw [if_pos q] at hw2
      rw [q]
      exact hp.subset (List.mem_append_left _ hw2)
    · rw [if_neg q] at hw2
      rcases hF u with z | z <;> rw [z] at hw2
      · cases hw2
      · exact hw2
  have h60 : ∀ u w, w ∈ U.F m D u → u < 60 ∧ w < 60 := fun u w hw2 => by
    obtain ⟨i, i1, i2, -⟩ := (U.F_mem hw).mp hw2
    exact ⟨by rw [← i2]; exact D.ord_lt hw i1, (U.F_own hw hu hr hw2).1⟩
  have hv : v ∈ U.F m D E := hp.subset (by simp)
  have hnd : (P ++ [v]).Nodup := hp.sublist.nodup (hf.2 E)
  obtain ⟨x, x1, x2, x3⟩ := s_X8_append (v := v) (e := E) hT hL ⟨fun u w z => h60 u w (hsub u w z), fun u => by
    unfold seF
    by_cases q : u = E
    · rw [if_pos q]; exact (List.nodup_append.mp hnd).1
    · rw [if_neg q]
      rcases hF u with z | z <;> rw [z]
      · exact List.nodup_nil
      · exact hf.2 u⟩ (h60 _ _ hv).1 (h60 _ _ hv).2 (fun u z => by
    by_cases q : u = E
    · unfold seF at z
      rw [if_pos q] at z
      exact (List.nodup_append.mp hnd).2.2 v z v (by simp) rfl
    · have := (hf.1 _ _ (hsub u v z)).1
      rw [(hf.1 _ _ hv).1] at this
      exact q this.symm)
  rw [snF_seF] at x2
  exact ⟨x, x1, x2, x3⟩
/-- an update goes into an element -/
theorem LC.into (h : LC S c b e g m D U N0) (hk : k < U.n) (hE : E < 60) :
    f_X9_isInto g (nI k) (nI E) (-1) (tc_mk S c) = some (bI (decide (U.uw k = 0 ∧ U.uk k = 2 ∧ U.up k = E))) ∧
    ∀ p, p < 100 → f_X9_isInto g (nI k) (nI E) (nI p) (tc_mk S c) = some (bI (U.ik k E p)) := by
  obtain ⟨⟨-, -, hU⟩, -, ⟨hw, hu, -⟩, -, ⟨u1, u2, u3, u4, u5, u6, u7, u8⟩, -⟩ := h
  have r20 : ∀ f : Nat → Int32, rg 20 f (nI k) = f k := fun f => rg_in f (by omega) (by decide)
  have a1 := u5 k hk
  have a2 := u6 k hk
  have eb : ∀ (q : Prop) [Decidable q], (if q then some (1 : Int32) else some 0) = some (bI (decide q)) := fun q _ => by
    by_cases z : q <;> simp [z, bI]
  have hp : U.uw k = 0 ∨ U.uw k = 4 → U.up k < 60 ∧ ((U.uw k = 0 ∧ U.uk k = 2) ∨ U.ul k ≤ 64) := fun z => by
    obtain ⟨t, t1, t2, -, t4⟩ := hu.2.2.2.1 k hk z
    refine ⟨by rw [t2]; exact D.ord_lt hw t1, ?_⟩
    rcases t4 with t4 | t4
    · exact .inl t4
    · exact .inr (Nat.le_trans t4 (fb_ct_le _ _))
  have n1 : ¬ (-1 : Int32) = nI E := fun z => nI_nm1 (show E < 2 ^ 31 by omega) z.symm
  constructor
  · by_cases q : U.uw k = 0 ∨ U.uw k = 4
    · obtain ⟨p1, p2⟩ := hp q
      rw [if_pos q] at a1
      by_cases q2 : U.uw k = 4 ∨ (U.uw k = 0 ∧ U.uk k ≠ 2)
      · rw [if_pos q2] at a2
        have n2 : ¬ nI (U.ul k) = (-1 : Int32) := nI_nm1 (by omega)
        have e3 : decide (U.uw k = 0 ∧ U.uk k = 2 ∧ U.up k = E) = false := decide_eq_false (by omega)
        rw [e3]
        by_cases q3 : U.up k = E
        · simp (maxSteps := 3000000) (disch := omega) only [Option.bind_some, tc_bs, tq_let, tc_I1, tc_I2, tc_J1, tc_J2, tc_J3, tc_F1, tc_F2, tc_F3, tc_F4, tc_G1, tc_G2, tc_G3, tc_G4, tc_G5, tc_us, tc_un, s_one, s_holds, s_J13_bitCount, bz_bI, f_X9_isInto, hU.f, r20, a1, a2, q3, n2, if_true, if_false]; rfl
        · have n3 : ¬ nI (U.up k) = nI E := fun z => q3 ((nI_eq (by omega) (by omega)).mp z)
          simp (maxSteps := 3000000) (disch := omega) only [Option.bind_some, tc_bs, tq_let, tc_I1, tc_I2, tc_J1, tc_J2, tc_J3, tc_F1, tc_F2, tc_F3, tc_F4, tc_G1, tc_G2, tc_G3, tc_G4, tc_G5, tc_us, tc_un, s_one, s_holds, s_J13_bitCount, bz_bI, f_X9_isInto, hU.f, r20, a1, a2, n3, n2, if_true, if_false]; rfl
      · rw [if_neg q2] at a2
        by_cases q3 : U.up k = E
        · have e3 : decide (U.uw k = 0 ∧ U.uk k = 2 ∧ U.up k = E) = true := decide_eq_true (by omega)
          rw [e3]
          simp (maxSteps := 3000000) (disch := omega) only [Option.bind_some, tc_bs, tq_let, tc_I1, tc_I2, tc_J1, tc_J2, tc_J3, tc_F1, tc_F2, tc_F3, tc_F4, tc_G1, tc_G2, tc_G3, tc_G4, tc_G5, tc_us, tc_un, s_one, s_holds, s_J13_bitCount, bz_bI, f_X9_isInto, hU.f, r20, a1, a2, q3, if_true, if_false]; rfl
        · have e3 : decide (U.uw k = 0 ∧ U.uk k = 2 ∧ U.up k = E) = false := decide_eq_false (by omega)
          rw [e3]
          have n3 : ¬ nI (U.up k) = nI E := fun z => q3 ((nI_eq (by omega) (by omega)).mp z)
          simp (maxSteps := 3000000) (disch := omega) only [Option.bind_some, tc_bs, tq_let, tc_I1, tc_I2, tc_J1, tc_J2, tc_J3, tc_F1, tc_F2, tc_F3, tc_F4, tc_G1, tc_G2, tc_G3, tc_G4, tc_G5, tc_us, tc_un, s_one, s_holds, s_J13_bitCount, bz_bI, f_X9_isInto, hU.f, r20, a1, a2, n3, if_true, if_false]; rfl
    · rw [if_neg q] at a1
      have e3 : decide (U.uw k = 0 ∧ U.uk k = 2 ∧ U.up k = E) = false := decide_eq_false (by omega)
      rw [e3]
      simp (maxSteps := 3000000) (disch := omega) only [Option.bind_some, tc_bs, tq_let, tc_I1, tc_I2, tc_J1, tc_J2, tc_J3, tc_F1, tc_F2, tc_F3, tc_F4, tc_G1, tc_G2, tc_G3, tc_G4, tc_G5, tc_us, tc_un, s_one, s_holds, s_J13_bitCount, bz_bI, f_X9_isInto, hU.f, r20, a1, n1, if_true, if_false]; rfl
  · intro p hp100
    have n4 : ¬ (-1 : Int32) = nI p := fun z => nI_nm1 (show p < 2 ^ 31 by omega) z.symm
    unfold Ups.ik
    by_cases q : U.uw k = 0 ∨ U.uw k = 4
    · obtain ⟨p1, p2⟩ := hp q
      rw [if_pos q] at a1
      by_cases q2 : U.uw k = 4 ∨ (U.uw k = 0 ∧ U.uk k ≠ 2)
      · rw [if_pos q2] at a2
        by_cases q3 : U.up k = E
        · by_cases q4 : U.ul k = p
          · have e3 : decide ((U.uw k = 4 ∨ (U.uw k = 0 ∧ U.uk k ≠ 2)) ∧ U.up k = E ∧ U.ul k = p) = true := decide_eq_true ⟨q2, q3, q4⟩
            rw [e3]
            simp (maxSteps := 3000000) (disch := omega) only [Option.bind_some, tc_bs, tq_let, tc_I1, tc_I2, tc_J1, tc_J2, tc_J3, tc_F1, tc_F2, tc_F3, tc_F4, tc_G1, tc_G2, tc_G3, tc_G4, tc_G5, tc_us, tc_un, s_one, s_holds, s_J13_bitCount, bz_bI, f_X9_isInto, hU.f, r20, a1, a2, q3, q4, if_true, if_false]; rfl
          · have e3 : decide ((U.uw k = 4 ∨ (U.uw k = 0 ∧ U.uk k ≠ 2)) ∧ U.up k = E ∧ U.ul k = p) = false := decide_eq_false (fun z => q4 z.2.2)
            rw [e3]
            have n5 : ¬ nI (U.ul k) = nI p := fun z => q4 ((nI_eq (by omega) (by omega)).mp z)
            simp (maxSteps := 3000000) (disch := omega) only [Option.bind_some, tc_bs, tq_let, tc_I1, tc_I2, tc_J1, tc_J2, tc_J3, tc_F1, tc_F2, tc_F3, tc_F4, tc_G1, tc_G2, tc_G3, tc_G4, tc_G5, tc_us, tc_un, s_one, s_holds, s_J13_bitCount, bz_bI, f_X9_isInto, hU.f, r20, a1, a2, q3, n5, if_true, if_false]; rfl
        · have n3 : ¬ nI (U.up k) = nI E := fun z => q3 ((nI_eq (by omega) (by omega)).mp z)
          have e3 : decide ((U.uw k = 4 ∨ (U.uw k = 0 ∧ U.uk k ≠ 2)) ∧ U.up k = E ∧ U.ul k = p) = false := decide_eq_false (fun z => q3 z.2.1)
          rw [e3]
          simp (maxSteps := 3000000) (disch := omega) only [Option.bind_some, tc_bs, tq_let, tc_I1, tc_I2, tc_J1, tc_J2, tc_J3, tc_F1, tc_F2, tc_F3, tc_F4, tc_G1, tc_G2, tc_G3, tc_G4, tc_G5, tc_us, tc_un, s_one, s_holds, s_J13_bitCount, bz_bI, f_X9_isInto, hU.f, r20, a1, a2, n3, if_true, if_false]; rfl
      · rw [if_neg q2] at a2
        have e3 : decide ((U.uw k = 4 ∨ (U.uw k = 0 ∧ U.uk k ≠ 2)) ∧ U.up k = E ∧ U.ul k = p) = false := decide_eq_false (fun z => q2 z.1)
        rw [e3]
        by_cases q3 : U.up k = E
        · simp (maxSteps := 3000000) (disch := omega) only [Option.bind_some, tc_bs, tq_let, tc_I1, tc_I2, tc_J1, tc_J2, tc_J3, tc_F1, tc_F2, tc_F3, tc_F4, tc_G1, tc_G2, tc_G3, tc_G4, tc_G5, tc_us, tc_un, s_one, s_holds, s_J13_bitCount, bz_bI, f_X9_isInto, hU.f, r20, a1, a2, q3, n4, if_true, if_false]; rfl
        · have n3 : ¬ nI (U.up k) = nI E := fun z => q3 ((nI_eq (by omega) (by omega)).mp z)
          simp (maxSteps := 3000000) (disch := omega) only [Option.bind_some, tc_bs, tq_let, tc_I1, tc_I2, tc_J1, tc_J2, tc_J3, tc_F1, tc_F2, tc_F3, tc_F4, tc_G1, tc_G2, tc_G3, tc_G4, tc_G5, tc_us, tc_un, s_one, s_holds, s_J13_bitCount, bz_bI, f_X9_isInto, hU.f, r20, a1, a2, n3, if_true, if_false]; rfl
    · rw [if_neg q] at a1
      have e3 : decide ((U.uw k = 4 ∨ (U.uw k = 0 ∧ U.uk k ≠ 2)) ∧ U.up k = E ∧ U.ul k = p) = false := decide_eq_false (by omega)
      rw [e3]
      simp (maxSteps := 3000000) (disch := omega) only [Option.bind_some, tc_bs, tq_let, tc_I1, tc_I2, tc_J1, tc_J2, tc_J3, tc_F1, tc_F2, tc_F3, tc_F4, tc_G1, tc_G2, tc_G3, tc_G4, tc_G5, tc_us, tc_un, s_one, s_holds, s_J13_bitCount, bz_bI, f_X9_isInto, hU.f, r20, a1, n1, if_true, if_false]; rfl
end LEL
