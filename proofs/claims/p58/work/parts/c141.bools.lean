/-! ===== answers that are true or false; what calls need ===== -/
def armB (L : Option (Int32 × tq_H)) (R : tq_H → Option (Int32 × tq_H)) (y4 : Int32) : Option ((Int32 × tq_H) ⊕ (Int32 × tq_H)) :=
  L.bind fun v2 => (tq_is v2.2 155 11).bind fun _ => (R v2.2).bind fun v4 => (tq_is v4.2 155 11).bind fun _ => (f_X11_thrown 155 v4.2).bind fun v6 =>
  if v6 = v2.1 then
    if v2.1 = 0 then
      (tq_aj v4.2 205 (0 : Int32)).bind fun x9 =>
      tq_let (if v4.1 = 0 then (0 : Int64) else (1 : Int64)) fun p9 =>
      if (lg_cmp x9 p9) = 0 then
        tq_let (y4 + (5 : Int32)) fun x10 =>
        some (.inl (x10, v4.2))
      else
        some (.inr ((0 : Int32), v4.2))
    else
      tq_let (y4 + (5 : Int32)) fun x8 =>
      some (.inl (x8, v4.2))
  else
    some (.inr ((0 : Int32), v4.2))
def bL (a : Int32) : Int64 := if a = 0 then 0 else 1
section ARB
variable {S S1 S2 : tq_H} {c c1 c2 c' : tc_C} {di : DI} {ed ed2 : Option Nat} {z z2 t : Nat} {a k x y4 hi : Int32} {h : tq_H}
theorem bL_bI (b : Bool) : (if bI b = 0 then (0 : Int64) else (1 : Int64)) = bL (bI b) := rfl
theorem armB_ok {L : Option (Int32 × tq_H)} {R : tq_H → Option (Int32 × tq_H)} (hm : tc_Mod S1 z) (hm2 : tc_Mod S2 z2) (ht : tc_Tq S2 ed2) (h1 : L = some (k, tc_mk S1 c1)) (h2 : R (tc_mk S1 c1) = some (a, tc_mk S2 c2)) (h3 : c2.2.2.1 155 0 = k) (h4 : k = 0 → c2.2.1 205 0 = bL a) :
    armB L R y4 = some (.inl (y4 + 5, tc_mk S2 c2)) := by
  unfold armB
  rw [h1, Option.bind_some]
  have e1 : tq_is (tc_mk S1 c1) 155 11 = some () := by simp (maxSteps := 3000000) (disch := omega) only [Option.bind_some, tc_bs, tq_let, tc_I1, tc_I2, tc_J1, tc_J2, tc_J3, tc_F1, tc_F2, tc_F3, tc_F4, tc_G1, tc_G2, tc_G3, tc_G4, tc_G5, tc_us, tc_un, s_one, s_holds, s_J13_bitCount, bz_bI, hm.f]
  have e2 : tq_is (tc_mk S2 c2) 155 11 = some () := by simp (maxSteps := 3000000) (disch := omega) only [Option.bind_some, tc_bs, tq_let, tc_I1, tc_I2, tc_J1, tc_J2, tc_J3, tc_F1, tc_F2, tc_F3, tc_F4, tc_G1, tc_G2, tc_G3, tc_G4, tc_G5, tc_us, tc_un, s_one, s_holds, s_J13_bitCount, bz_bI, hm2.f]
  have e3 : f_X11_thrown 155 (tc_mk S2 c2) = some k := by simp (maxSteps := 3000000) (disch := omega) only [Option.bind_some, tc_bs, tq_let, tc_I1, tc_I2, tc_J1, tc_J2, tc_J3, tc_F1, tc_F2, tc_F3, tc_F4, tc_G1, tc_G2, tc_G3, tc_G4, tc_G5, tc_us, tc_un, s_one, s_holds, s_J13_bitCount, bz_bI, f_X11_thrown, hm2.f, h3]
  have e4 : tq_aj (tc_mk S2 c2) 205 0 = some (c2.2.1 205 0) := by simp (maxSteps := 3000000) (disch := omega) only [Option.bind_some, tc_bs, tq_let, tc_I1, tc_I2, tc_J1, tc_J2, tc_J3, tc_F1, tc_F2, tc_F3, tc_F4, tc_G1, tc_G2, tc_G3, tc_G4, tc_G5, tc_us, tc_un, s_one, s_holds, s_J13_bitCount, bz_bI, ht.f]
  dsimp only
  rw [e1, Option.bind_some, h2, Option.bind_some]
  dsimp only
  rw [e2, Option.bind_some, e3, Option.bind_some, if_pos rfl]
  by_cases q : k = 0
  · rw [if_pos q, e4, Option.bind_some, h4 q]
    show (if lg_cmp (bL a) (bL a) = 0 then _ else _) = _
    rw [if_pos (lg_s _)]; rfl
  · rw [if_neg q]; rfl
theorem ans_at (c : tc_C) (x : Int64) : (ansC c x).2.1 205 0 = x := by unfold ansC; rw [tc_J2, tc_us, updL_s]
theorem Wr.A {w1 w2 : Nat → Prop} {w3 w4 : Nat → Nat → Prop} {c : tc_C} (a : Int64) (h : w2 205) : Wr w1 w2 w3 w4 c (ansC c a) := Wr.J _ h
theorem armB_any {L : Option (Int32 × tq_H)} {R : tq_H → Option (Int32 × tq_H)} (hm : tc_Mod S z) (hq : tc_Tq S ed)
    (hL : (∃ a c1 c2, L = some (0, tc_mk S (ansC c1 (bL a))) ∧ R (tc_mk S (ansC c1 (bL a))) = some (a, tc_mk S c2) ∧ InvE di (tc_mk S c2) ∧ c2.2.2.1 155 0 = 0 ∧ c2.2.1 205 = (ansC c1 (bL a)).2.1 205) ∨
      ∃ k b c1 c2, k ≠ 0 ∧ L = some (k, tc_mk S c1) ∧ R (tc_mk S c1) = some (b, tc_mk S c2) ∧ InvE di (tc_mk S c2) ∧ c2.2.2.1 155 0 = k) :
    ∃ h', armB L R y4 = some (.inl (y4 + 5, h')) ∧ InvE di h' := by
  rcases hL with ⟨a, c1, c2, h1, h2, h3, h4, h5⟩ | ⟨k, b, c1, c2, h0, h1, h2, h3, h4⟩
  · exact ⟨_, armB_ok hm hm hq h1 h2 h4 (fun _ => by rw [h5, ans_at]), h3⟩
  · exact ⟨_, armB_ok hm hm hq h1 h2 h4 (fun z => absurd z h0), h3⟩
theorem armI_any {L : Option (Int32 × tq_H)} {R : tq_H → Option (Int32 × tq_H)} (hm : tc_Mod S z) (hq : tc_Tq S ed)
    (hL : (∃ a c1 c2, L = some (0, tc_mk S (ansC c1 a.toInt64)) ∧ R (tc_mk S (ansC c1 a.toInt64)) = some (a, tc_mk S c2) ∧ InvE di (tc_mk S c2) ∧ c2.2.2.1 155 0 = 0 ∧ c2.2.1 205 = (ansC c1 a.toInt64).2.1 205) ∨
      ∃ k b c1 c2, k ≠ 0 ∧ L = some (k, tc_mk S c1) ∧ R (tc_mk S c1) = some (b, tc_mk S c2) ∧ InvE di (tc_mk S c2) ∧ c2.2.2.1 155 0 = k) :
    ∃ h', armI L R y4 = some (.inl (y4 + 5, h')) ∧ InvE di h' := by
  rcases hL with ⟨a, c1, c2, h1, h2, h3, h4, h5⟩ | ⟨k, b, c1, c2, h0, h1, h2, h3, h4⟩
  · exact ⟨_, armI_ok hm hm hq h1 h2 h4 (fun _ => by rw [h5, ans_at]), h3⟩
  · exact ⟨_, armI_ok hm hm hq h1 h2 h4 (fun z => absurd z h0), h3⟩
theorem armI_apply {L : Option (Int32 × tq_H)} {R : tq_H → Option (Int32 × tq_H)} {dg : Nat → DI} {un : Nat} (hm : tc_Mod S z) (hq : tc_Tq S ed)
    (hL : (∃ a c1 c2, L = some (0, tc_mk S (ansC c1 a.toInt64)) ∧ R (tc_mk S (ansC c1 a.toInt64)) = some (a, tc_mk S c2) ∧ InvE (dg 0) (tc_mk S c2) ∧ c2.2.2.1 155 0 = 0 ∧ c2.2.1 205 = (ansC c1 a.toInt64).2.1 205) ∨
      ∃ k b c1 c2, k ≠ 0 ∧ L = some (k, tc_mk S c1) ∧ R (tc_mk S c1) = some (b, tc_mk S c2) ∧ InvE (dg un) (tc_mk S c2) ∧ c2.2.2.1 155 0 = k) :
    ∃ h' u, armI L R y4 = some (.inl (y4 + 5, h')) ∧ InvE (dg u) h' ∧ (u = 0 ∨ (u = un ∧ ∃ k, f_X11_thrown 155 h' = some k ∧ k ≠ 0)) := by
  rcases hL with ⟨a, c1, c2, h1, h2, h3, h4, h5⟩ | ⟨k, b, c1, c2, h0, h1, h2, h3, h4⟩
  · exact ⟨_, 0, armI_ok hm hm hq h1 h2 h4 (fun _ => by rw [h5, ans_at]), h3, Or.inl rfl⟩
  · exact ⟨_, un, armI_ok hm hm hq h1 h2 h4 (fun z => absurd z h0), h3, Or.inr ⟨rfl, k, thr_at hm h4, h0⟩⟩
theorem idx_ok (h1 : 0 ≤ x) (h2 : x < hi) : f_X10_needIndex 0 x hi h = some (.inr (), h) := by
  unfold f_X10_needIndex
  rw [if_neg (Int32.not_lt.mpr h1), if_pos h2]
theorem idx_no (h1 : ¬ (0 ≤ x ∧ x < hi)) : f_X10_needIndex 0 x hi h = some (.inl "java/lang/IndexOutOfBoundsException", h) := by
  unfold f_X10_needIndex
  by_cases q : x < 0
  · rw [if_pos q]
  · rw [if_neg q, if_neg fun z => h1 ⟨Int32.not_lt.mp q, z⟩]
theorem nneg_ok (h1 : 0 ≤ x) : f_X10_needNotNegative 0 x h = some (.inr (), h) := by
  unfold f_X10_needNotNegative
  rw [if_pos h1]
theorem nneg_no (h1 : ¬ 0 ≤ x) : f_X10_needNotNegative 0 x h = some (.inl "java/lang/IndexOutOfBoundsException", h) := by
  unfold f_X10_needNotNegative
  rw [if_neg h1]
theorem lt_le5 : (0 ≤ x ∧ x ≤ 5) ↔ (0 ≤ x ∧ x < 6) :=
  ⟨fun q => ⟨q.1, Int32.lt_of_le_of_lt q.2 (by decide)⟩, fun q => by
    obtain ⟨j, j1, rfl⟩ := nI_of (Int32.not_lt.mpr q.1)
    have : j < 6 := (nI_ltI j1 (show 6 < 2 ^ 31 by decide)).mp q.2
    exact ⟨q.1, nI_le (show j ≤ 5 by omega) (by decide)⟩⟩
theorem lt_le3 : (0 ≤ x ∧ x ≤ 3) ↔ (0 ≤ x ∧ x < 4) :=
  ⟨fun q => ⟨q.1, Int32.lt_of_le_of_lt q.2 (by decide)⟩, fun q => by
    obtain ⟨j, j1, rfl⟩ := nI_of (Int32.not_lt.mpr q.1)
    have : j < 4 := (nI_ltI j1 (show 4 < 2 ^ 31 by decide)).mp q.2
    exact ⟨q.1, nI_le (show j ≤ 3 by omega) (by decide)⟩⟩
/-- a type: both sides -/
theorem typ_ok (q : 0 ≤ x ∧ x < 6) : (∀ h, f_X10_needIndex 0 x 6 h = some (.inr (), h)) ∧ (∀ h, f_X11_isType x h = some 1) ∧ ∃ t, t < 6 ∧ x = nI t := by
  have z1 : tq_bz 1 = some 1 := rfl
  refine ⟨fun h => idx_ok q.1 q.2, fun h => by simp (maxSteps := 3000000) (disch := omega) only [Option.bind_some, tc_bs, tq_let, tc_I1, tc_I2, tc_J1, tc_J2, tc_J3, tc_F1, tc_F2, tc_F3, tc_F4, tc_G1, tc_G2, tc_G3, tc_G4, tc_G5, tc_us, tc_un, s_one, s_holds, s_J13_bitCount, bz_bI, f_X11_isType, in_ok (lt_le5.mpr q).1 (lt_le5.mpr q).2, z1], ?_⟩
  obtain ⟨j, j1, rfl⟩ := nI_of (Int32.not_lt.mpr q.1)
  exact ⟨j, (nI_ltI j1 (show 6 < 2 ^ 31 by decide)).mp q.2, rfl⟩
theorem typ_no (q : ¬ (0 ≤ x ∧ x < 6)) : (∀ h, f_X10_needIndex 0 x 6 h = some (.inl "java/lang/IndexOutOfBoundsException", h)) ∧ (∀ h, f_X11_isType x h = some 0) := by
  have z0 : tq_bz 0 = some 0 := rfl
  exact ⟨fun h => idx_no q, fun h => by simp (maxSteps := 3000000) (disch := omega) only [Option.bind_some, tc_bs, tq_let, tc_I1, tc_I2, tc_J1, tc_J2, tc_J3, tc_F1, tc_F2, tc_F3, tc_F4, tc_G1, tc_G2, tc_G3, tc_G4, tc_G5, tc_us, tc_un, s_one, s_holds, s_J13_bitCount, bz_bI, f_X11_isType, in_no (mt lt_le5.mp q), z0]⟩
theorem sta_ok (q : 0 ≤ x ∧ x < 4) : (∀ h, f_X10_needIndex 0 x 4 h = some (.inr (), h)) ∧ (∀ h, f_X11_isState x h = some 1) ∧ ∃ t, t < 4 ∧ x = nI t := by
  have z1 : tq_bz 1 = some 1 := rfl
  refine ⟨fun h => idx_ok q.1 q.2, fun h => by simp (maxSteps := 3000000) (disch := omega) only [Option.bind_some, tc_bs, tq_let, tc_I1, tc_I2, tc_J1, tc_J2, tc_J3, tc_F1, tc_F2, tc_F3, tc_F4, tc_G1, tc_G2, tc_G3, tc_G4, tc_G5, tc_us, tc_un, s_one, s_holds, s_J13_bitCount, bz_bI, f_X11_isState, in_ok (lt_le3.mpr q).1 (lt_le3.mpr q).2, z1], ?_⟩
  obtain ⟨j, j1, rfl⟩ := nI_of (Int32.not_lt.mpr q.1)
  exact ⟨j, (nI_ltI j1 (show 4 < 2 ^ 31 by decide)).mp q.2, rfl⟩
theorem sta_no (q : ¬ (0 ≤ x ∧ x < 4)) : (∀ h, f_X10_needIndex 0 x 4 h = some (.inl "java/lang/IndexOutOfBoundsException", h)) ∧ (∀ h, f_X11_isState x h = some 0) := by
  have z0 : tq_bz 0 = some 0 := rfl
  exact ⟨fun h => idx_no q, fun h => by simp (maxSteps := 3000000) (disch := omega) only [Option.bind_some, tc_bs, tq_let, tc_I1, tc_I2, tc_J1, tc_J2, tc_J3, tc_F1, tc_F2, tc_F3, tc_F4, tc_G1, tc_G2, tc_G3, tc_G4, tc_G5, tc_us, tc_un, s_one, s_holds, s_J13_bitCount, bz_bI, f_X11_isState, in_no (mt lt_le3.mp q), z0]⟩
end ARB
