/-! ===== copying a tree ===== -/
section CPY
variable {S : tq_H} {c : tc_C} {b e m : Nat} {D : Doc}
def cpf (f g : Nat → Int32) : Nat → Int32 := fun j => if j < 60 then f j else g j
theorem cpf_in {f g : Nat → Int32} {j : Nat} (h : j < 60) : cpf f g j = f j := if_pos h

theorem tc_Tree.cp (h : tc_Tree S b) (g : tc_Tree S e) : (∀ c, f_X5_copy (b + 22) (e + 22) (tc_mk S c) = some (tc_mk S (tc_I c (b + 23) (cpf (c.1 (e + 23)) (c.1 (b + 23)))))) ∧ (∀ c, f_X5_copy (b + 24) (e + 24) (tc_mk S c) = some (tc_mk S (tc_I c (b + 25) (cpf (c.1 (e + 25)) (c.1 (b + 25)))))) ∧ (∀ c, f_X5_copy (b + 26) (e + 26) (tc_mk S c) = some (tc_mk S (tc_I c (b + 27) (cpf (c.1 (e + 27)) (c.1 (b + 27)))))) ∧ (∀ c, f_X5_copy (b + 28) (e + 28) (tc_mk S c) = some (tc_mk S (tc_I c (b + 29) (cpf (c.1 (e + 29)) (c.1 (b + 29)))))) ∧ (∀ c, f_X5_copy (b + 30) (e + 30) (tc_mk S c) = some (tc_mk S (tc_I c (b + 31) (cpf (c.1 (e + 31)) (c.1 (b + 31)))))) ∧ (∀ c, f_X5_copy (b + 32) (e + 32) (tc_mk S c) = some (tc_mk S (tc_I c (b + 33) (cpf (c.1 (e + 33)) (c.1 (b + 33)))))) ∧ (∀ c, f_X5_copy (b + 34) (e + 34) (tc_mk S c) = some (tc_mk S (tc_I c (b + 35) (cpf (c.1 (e + 35)) (c.1 (b + 35)))))) ∧ (∀ c, f_X5_copy (b + 36) (e + 36) (tc_mk S c) = some (tc_mk S (tc_I c (b + 37) (cpf (c.1 (e + 37)) (c.1 (b + 37)))))) ∧ (∀ c, f_X5_copy (b + 38) (e + 38) (tc_mk S c) = some (tc_mk S (tc_I c (b + 39) (cpf (c.1 (e + 39)) (c.1 (b + 39)))))) :=
  ⟨fun _ => s_X5_copy h.2.2.2.2.2.2.2.2.2.2.2.2.1 g.2.2.2.2.2.2.2.2.2.2.2.2.1,
  fun _ => s_X5_copy h.2.2.2.2.2.2.2.2.2.2.2.2.2.1 g.2.2.2.2.2.2.2.2.2.2.2.2.2.1,
  fun _ => s_X5_copy h.2.2.2.2.2.2.2.2.2.2.2.2.2.2.1 g.2.2.2.2.2.2.2.2.2.2.2.2.2.2.1,
  fun _ => s_X5_copy h.2.2.2.2.2.2.2.2.2.2.2.2.2.2.2.1 g.2.2.2.2.2.2.2.2.2.2.2.2.2.2.2.1,
  fun _ => s_X5_copy h.2.2.2.2.2.2.2.2.2.2.2.2.2.2.2.2.1 g.2.2.2.2.2.2.2.2.2.2.2.2.2.2.2.2.1,
  fun _ => s_X5_copy h.2.2.2.2.2.2.2.2.2.2.2.2.2.2.2.2.2.1 g.2.2.2.2.2.2.2.2.2.2.2.2.2.2.2.2.2.1,
  fun _ => s_X5_copy h.2.2.2.2.2.2.2.2.2.2.2.2.2.2.2.2.2.2.1 g.2.2.2.2.2.2.2.2.2.2.2.2.2.2.2.2.2.2.1,
  fun _ => s_X5_copy h.2.2.2.2.2.2.2.2.2.2.2.2.2.2.2.2.2.2.2.1 g.2.2.2.2.2.2.2.2.2.2.2.2.2.2.2.2.2.2.2.1,
  fun _ => s_X5_copy h.2.2.2.2.2.2.2.2.2.2.2.2.2.2.2.2.2.2.2.2 g.2.2.2.2.2.2.2.2.2.2.2.2.2.2.2.2.2.2.2.2⟩
/-- the trees at b and e lie apart -/
def Apart (b e : Nat) : Prop := b + 40 ≤ e ∨ e + 40 ≤ b
/-- off the tree at b nothing has changed -/
def OffT (c c' : tc_C) (b : Nat) : Prop :=
  (∀ a, a < b ∨ b + 39 < a → c'.1 a = c.1 a) ∧ (∀ a, a < b ∨ b + 39 < a → c'.2.1 a = c.2.1 a) ∧ (∀ a, a < b ∨ b + 39 < a → c'.2.2.1 a = c.2.2.1 a) ∧ (∀ a, a < b ∨ b + 39 < a → c'.2.2.2.1 a = c.2.2.2.1 a) ∧ c'.2.2.2.2 = c.2.2.2.2
theorem OffT.trans {c c' c'' : tc_C} {b : Nat} (h : OffT c c' b) (g : OffT c' c'' b) : OffT c c'' b := ⟨fun a z => (g.1 a z).trans (h.1 a z), fun a z => (g.2.1 a z).trans (h.2.1 a z), fun a z => (g.2.2.1 a z).trans (h.2.2.1 a z), fun a z => (g.2.2.2.1 a z).trans (h.2.2.2.1 a z), g.2.2.2.2.trans h.2.2.2.2⟩
theorem Off.T {c c' : tc_C} {b : Nat} (h : Off c c' b) : OffT c c' b := ⟨fun a z => h.1 a (by omega), fun a z => h.2.1 a (by omega), fun a z => h.2.2.1 a (by omega), fun a z => h.2.2.2.1 a (by omega), h.2.2.2.2⟩
theorem s_X8_copyLoose (hT : tc_Tree S b) (hE : tc_Tree S e) (hA : Apart b e) : ∃ c', f_X8_copyLoose b e (tc_mk S c) = some (tc_mk S c') ∧ OffT c c' b ∧ c'.2.2.1 b 10 = c.2.2.1 e 10 ∧
    (∀ v, v < 60 → c'.1 (b + 23) v = c.1 (e + 23) v) ∧ (∀ v, v < 60 → c'.1 (b + 25) v = c.1 (e + 25) v) ∧ (∀ v, v < 60 → c'.1 (b + 27) v = c.1 (e + 27) v) ∧ (∀ v, v < 60 → c'.1 (b + 29) v = c.1 (e + 29) v) ∧ (∀ v, v < 60 → c'.1 (b + 33) v = c.1 (e + 33) v) ∧
    (∀ v, v < 60 → c'.1 (b + 31) v = -1) ∧ (∀ v, v < 60 → c'.1 (b + 35) v = -1) ∧ (∀ v, v < 60 → c'.1 (b + 37) v = -1) ∧ (∀ v, v < 60 → c'.1 (b + 39) v = -1) := by
  have hA' : b + 40 ≤ e ∨ e + 40 ≤ b := hA
  simp (maxSteps := 3000000) (disch := omega) only [Option.bind_some, tc_bs, tq_let, tc_I1, tc_I2, tc_J1, tc_J2, tc_J3, tc_F1, tc_F2, tc_F3, tc_F4, tc_G1, tc_G2, tc_G3, tc_G4, tc_G5, tc_us, tc_un, s_one, s_holds, s_J13_bitCount, bz_bI, f_X8_copyLoose, hT.f, hE.f, hT.cp hE]
  refine ⟨_, rfl, ⟨fun a ha => ?_, fun a ha => ?_, fun a ha => ?_, fun a ha => ?_, ?_⟩, ?_, fun v hv => ?_, fun v hv => ?_, fun v hv => ?_, fun v hv => ?_, fun v hv => ?_, fun v hv => ?_, fun v hv => ?_, fun v hv => ?_, fun v hv => ?_⟩
  all_goals simp (maxSteps := 3000000) (disch := omega) only [Option.bind_some, tc_bs, tq_let, tc_I1, tc_I2, tc_J1, tc_J2, tc_J3, tc_F1, tc_F2, tc_F3, tc_F4, tc_G1, tc_G2, tc_G3, tc_G4, tc_G5, tc_us, tc_un, s_one, s_holds, s_J13_bitCount, bz_bI, if_true]
  all_goals first | rw [cpf_in hv] | rw [if_pos hv]
theorem s_X8_copy (hT : tc_Tree S b) (hE : tc_Tree S e) (hA : Apart b e) (hw : D.wf) (hN : Nod c e D m) : ∃ c', f_X8_copy b e (tc_mk S c) = some (tc_mk S c') ∧ OffT c c' b ∧ Lay c' b D ∧ Nod c' b D m ∧ (∀ v, v < 60 → c'.1 (b + 33) v = c.1 (e + 33) v) := by
  have hA' : b + 40 ≤ e ∨ e + 40 ≤ b := hA
  obtain ⟨c1, e1, o1, q1, q2, q3, q4, q5, q6, -, -, -, -⟩ := s_X8_copyLoose (c := c) hT hE hA
  obtain ⟨n1, n2, n3, n4, n5, n6, n7, n8, n9, n10⟩ := hN
  have u31 := o1.1 (e + 31) (by omega)
  have u35 := o1.1 (e + 35) (by omega)
  have u37 := o1.1 (e + 37) (by omega)
  have k1 : ∃ c2, f_X8_copy b e (tc_mk S c) = f_X8_layOut b (tc_mk S c2) ∧ OffT c1 c2 b ∧ Nod c2 b D m ∧ (∀ v, v < 60 → c2.1 (b + 33) v = c.1 (e + 33) v) := by
    simp (maxSteps := 3000000) (disch := omega) only [Option.bind_some, tc_bs, tq_let, tc_I1, tc_I2, tc_J1, tc_J2, tc_J3, tc_F1, tc_F2, tc_F3, tc_F4, tc_G1, tc_G2, tc_G3, tc_G4, tc_G5, tc_us, tc_un, s_one, s_holds, s_J13_bitCount, bz_bI, f_X8_copy, hT.f, hE.f, hT.cp hE, e1]
    refine ⟨_, rfl, ⟨fun a ha => ?_, fun a ha => ?_, fun a ha => ?_, fun a ha => ?_, ?_⟩, ⟨n1, n2, ?_, fun i hi => ?_, fun i hi => ?_, fun i hi => ?_, fun i hi => ?_, fun i hi => ?_, fun i hi => ?_, fun i hi => ?_⟩, fun v hv => ?_⟩
    all_goals simp (maxSteps := 3000000) (disch := omega) only [Option.bind_some, tc_bs, tq_let, tc_I1, tc_I2, tc_J1, tc_J2, tc_J3, tc_F1, tc_F2, tc_F3, tc_F4, tc_G1, tc_G2, tc_G3, tc_G4, tc_G5, tc_us, tc_un, s_one, s_holds, s_J13_bitCount, bz_bI, if_true]
    · exact q1.trans n3
    · rw [q2 _ (D.ord_lt hw hi), n4 i hi]
    · rw [q3 _ (D.ord_lt hw hi), n5 i hi]
    · rw [q4 _ (D.ord_lt hw hi), n6 i hi]
    · rw [q5 _ (D.ord_lt hw hi), n7 i hi]
    · rw [cpf_in (D.ord_lt hw hi), u31, n8 i hi]
    · rw [cpf_in (D.ord_lt hw hi), u35, n9 i hi]
    · rw [cpf_in (D.ord_lt hw hi), u37, n10 i hi]
    · exact q6 v hv
  obtain ⟨c2, k2, k3, k4, k5⟩ := k1
  obtain ⟨c3, l1, l2, l3, l4⟩ := s_X8_layOut hT hw k4
  exact ⟨c3, k2.trans l1, o1.trans (k3.trans l4.T), l2, l3, fun v hv => by rw [l4.1 (b + 33) (by omega), k5 v hv]⟩
end CPY
