/-! ===== plans ===== -/
def allB (f : Nat → Bool) : Nat → Bool
  | 0 => true
  | n + 1 => allB f n && f n
def dwn (a : Nat) : Bool := decide (a = 0 ∨ a = 1 ∨ a = 3 ∨ a = 4 ∨ a = 11)
def Pat.near (P : Pat) (q : Nat) : Bool := allB (fun k => decide (P.ax (5 * q + k) = 0 ∨ P.ax (5 * q + k) = 11) && decide (P.cc (5 * q + k) = 0)) (P.sc q)
def Pat.tell (P : Pat) (x : Nat) : Bool := if P.cw x = 0 then decide (P.cm x ≠ 2) else if P.cw x = 1 then false else P.near (P.co x)
def Pat.strm (P : Pat) (p : Nat) : Bool := allB (fun k => dwn (P.ax (5 * p + k)) && allB (fun d => P.tell (2 * (5 * p + k) + d)) (P.cc (5 * p + k))) (P.sc p)
section PLN
variable {S : tq_H} {c c' : tc_C} {p q k d m r z : Nat} {D : Doc} {P : Pat}
theorem allB_off {f : Nat → Bool} {k : Nat} (h : allB f k = false) : ∀ d, allB f (k + d) = false
  | 0 => h
  | d + 1 => by show (allB f (k + d) && _) = false; rw [allB_off h d]; rfl
/-- a loop that ends at the first that fails -/
theorem all_loop {B : Int32 → Option (Int32 ⊕ (Unit ⊕ Int32))} {f : Nat → Bool} (n : Nat) (hn : n < 100000) (hs : ∀ k, k < n → B (nI k) = some (if f k then .inl (nI (k + 1)) else .inr (.inr 0))) (he : B (nI n) = some (.inr (.inl ()))) : tq_loop B tq_N 0 = some (if allB f n then .inl () else .inr 0) := by
  obtain ⟨e, w1, w2⟩ := tc_run2 (B := B) n (fun k (_ : Unit) => nI k) (fun k _ => allB f k = true) (fun e => e = if allB f n then .inl () else .inr 0) hn (fun k _ hk hI => by
    cases q : f k with
    | true => left; exact ⟨(), by rw [hs k hk, q]; rfl, by show (allB f k && f k) = true; rw [hI, q]; rfl⟩
    | false =>
      right
      refine ⟨_, by rw [hs k hk, q]; rfl, ?_⟩
      have h1 : allB f (k + 1) = false := by show (allB f k && f k) = false; rw [q, Bool.and_false]
      have := allB_off h1 (n - (k + 1))
      rw [show k + 1 + (n - (k + 1)) = n by omega] at this
      rw [this]; rfl) (fun _ hI => ⟨_, he, by rw [hI]; rfl⟩) (x := ()) rfl
  rw [w2] at w1
  exact w1
theorem s_nameBelow (hPs : tc_Pth S 98) (hPC : PC c 98 P) (hP : P.wf) (hp : p < P.n) : f_X4_nameBelow 98 (nI p) (tc_mk S c) = some (if 0 < P.sc p ∧ P.ax (5 * p) = 3 ∧ P.ts (5 * p) < 8 then nI (P.ts (5 * p)) else -1) := by
  have h20 := hP.1
  have h5 := hP.2.1 p hp
  have hg0 : tq_gr (tc_mk S c) 98 4 0 = some 99 := by simp (maxSteps := 3000000) (disch := omega) only [Option.bind_some, tc_bs, tq_let, tc_I1, tc_I2, tc_J1, tc_J2, tc_J3, tc_F1, tc_F2, tc_F3, tc_F4, tc_G1, tc_G2, tc_G3, tc_G4, tc_G5, tc_us, tc_un, s_one, s_holds, s_J13_bitCount, bz_bI, hPs.f]
  have hi0 : tq_is (tc_mk S c) 99 5 = some () := by simp (maxSteps := 3000000) (disch := omega) only [Option.bind_some, tc_bs, tq_let, tc_I1, tc_I2, tc_J1, tc_J2, tc_J3, tc_F1, tc_F2, tc_F3, tc_F4, tc_G1, tc_G2, tc_G3, tc_G4, tc_G5, tc_us, tc_un, s_one, s_holds, s_J13_bitCount, bz_bI, hPs.f]
  have hg1 : tq_gr (tc_mk S c) 98 4 1 = some 101 := by simp (maxSteps := 3000000) (disch := omega) only [Option.bind_some, tc_bs, tq_let, tc_I1, tc_I2, tc_J1, tc_J2, tc_J3, tc_F1, tc_F2, tc_F3, tc_F4, tc_G1, tc_G2, tc_G3, tc_G4, tc_G5, tc_us, tc_un, s_one, s_holds, s_J13_bitCount, bz_bI, hPs.f]
  have hi1 : tq_is (tc_mk S c) 101 5 = some () := by simp (maxSteps := 3000000) (disch := omega) only [Option.bind_some, tc_bs, tq_let, tc_I1, tc_I2, tc_J1, tc_J2, tc_J3, tc_F1, tc_F2, tc_F3, tc_F4, tc_G1, tc_G2, tc_G3, tc_G4, tc_G5, tc_us, tc_un, s_one, s_holds, s_J13_bitCount, bz_bI, hPs.f]
  have hg2 : tq_gr (tc_mk S c) 98 4 2 = some 103 := by simp (maxSteps := 3000000) (disch := omega) only [Option.bind_some, tc_bs, tq_let, tc_I1, tc_I2, tc_J1, tc_J2, tc_J3, tc_F1, tc_F2, tc_F3, tc_F4, tc_G1, tc_G2, tc_G3, tc_G4, tc_G5, tc_us, tc_un, s_one, s_holds, s_J13_bitCount, bz_bI, hPs.f]
  have hi2 : tq_is (tc_mk S c) 103 5 = some () := by simp (maxSteps := 3000000) (disch := omega) only [Option.bind_some, tc_bs, tq_let, tc_I1, tc_I2, tc_J1, tc_J2, tc_J3, tc_F1, tc_F2, tc_F3, tc_F4, tc_G1, tc_G2, tc_G3, tc_G4, tc_G5, tc_us, tc_un, s_one, s_holds, s_J13_bitCount, bz_bI, hPs.f]
  have hsc : f_X5_get 99 (nI p) (tc_mk S c) = some (nI (P.sc p)) := by
    simp (maxSteps := 3000000) (disch := omega) only [Option.bind_some, tc_bs, tq_let, tc_I1, tc_I2, tc_J1, tc_J2, tc_J3, tc_F1, tc_F2, tc_F3, tc_F4, tc_G1, tc_G2, tc_G3, tc_G4, tc_G5, tc_us, tc_un, s_one, s_holds, s_J13_bitCount, bz_bI, hPs.f, rg_in _ (show p < 20 by omega) (show 20 < 2 ^ 31 by decide), pc_sc hPC hp hP.1]
  have hst : f_X4_stepAt 98 (nI p) 0 (tc_mk S c) = some (nI (5 * p)) := s_X4_stepAt 98 p 0 _
  unfold f_X4_nameBelow
  simp only [hPs.is, hst, hg0, hi0, hsc, Option.bind_some]
  by_cases h0 : 0 < P.sc p
  · have hax := (hPC.2.2.1 p 0 hp h0).1
    have hts := (hPC.2.2.1 p 0 hp h0).2.1
    have hok := hP.2.2 p 0 hp h0
    have hax : c.1 (98 + 4) (5 * p) = nI (P.ax (5 * p)) := hax
    have hts : c.1 (98 + 6) (5 * p) = nI (P.ts (5 * p)) := hts
    have hok : P.okS p (5 * p) := hok
    have gax : f_X5_get 101 (nI (5 * p)) (tc_mk S c) = some (nI (P.ax (5 * p))) := by
      simp (maxSteps := 3000000) (disch := omega) only [Option.bind_some, tc_bs, tq_let, tc_I1, tc_I2, tc_J1, tc_J2, tc_J3, tc_F1, tc_F2, tc_F3, tc_F4, tc_G1, tc_G2, tc_G3, tc_G4, tc_G5, tc_us, tc_un, s_one, s_holds, s_J13_bitCount, bz_bI, hPs.f, rg_in _ (show 5 * p < 100 by omega) (show 100 < 2 ^ 31 by decide)]
      rw [← hax]
    have gts : f_X5_get 103 (nI (5 * p)) (tc_mk S c) = some (nI (P.ts (5 * p))) := by
      simp (maxSteps := 3000000) (disch := omega) only [Option.bind_some, tc_bs, tq_let, tc_I1, tc_I2, tc_J1, tc_J2, tc_J3, tc_F1, tc_F2, tc_F3, tc_F4, tc_G1, tc_G2, tc_G3, tc_G4, tc_G5, tc_us, tc_un, s_one, s_holds, s_J13_bitCount, bz_bI, hPs.f, rg_in _ (show 5 * p < 100 by omega) (show 100 < 2 ^ 31 by decide)]
      rw [← hts]
    have hoa := hok.1
    have hot := hok.2.1
    have e3 : (nI (P.ax (5 * p)) = 3) ↔ P.ax (5 * p) = 3 := nI_eq (by omega) (show 3 < 2 ^ 31 by decide)
    have e8 : (nI (P.ts (5 * p)) ≥ 8) ↔ 8 ≤ P.ts (5 * p) := nI_leI (show 8 < 2 ^ 31 by decide) (by omega)
    rw [if_neg (nI_nle h0 (by omega))]
    simp only [hg1, hi1, gax, hg2, hi2, gts, Option.bind_some]
    by_cases h3 : P.ax (5 * p) = 3
    · rw [if_pos (e3.mpr h3)]
      by_cases h8 : 8 ≤ P.ts (5 * p)
      · rw [if_pos (e8.mpr h8), Option.bind_some, if_pos rfl, Option.bind_some, if_neg (fun w => by have := w.2.2; omega)]
      · rw [if_neg (fun w => h8 (e8.mp w)), Option.bind_some, if_neg (show ¬ (1 : Int32) = 0 by decide), Option.bind_some, if_pos ⟨h0, h3, by omega⟩]
    · rw [if_neg (fun w => h3 (e3.mp w)), Option.bind_some, if_pos rfl, Option.bind_some, if_neg (fun w => h3 w.2.1)]
  · have : P.sc p = 0 := by omega
    rw [this, if_pos (show nI 0 ≤ 0 by decide), Option.bind_some, if_pos rfl, Option.bind_some, if_neg (fun w => h0 (by omega))]
theorem s_near (hPs : tc_Pth S 98) (hPC : PC c 98 P) (hP : P.wf) (hq : q < P.n) : f_X4_staysAtNode 98 (nI q) (tc_mk S c) = some (bI (P.near q)) := by
  have h20 := hP.1
  have h5 := hP.2.1 q hq
  have hg0 : tq_gr (tc_mk S c) 98 4 0 = some 99 := by simp (maxSteps := 3000000) (disch := omega) only [Option.bind_some, tc_bs, tq_let, tc_I1, tc_I2, tc_J1, tc_J2, tc_J3, tc_F1, tc_F2, tc_F3, tc_F4, tc_G1, tc_G2, tc_G3, tc_G4, tc_G5, tc_us, tc_un, s_one, s_holds, s_J13_bitCount, bz_bI, hPs.f]
  have hi0 : tq_is (tc_mk S c) 99 5 = some () := by simp (maxSteps := 3000000) (disch := omega) only [Option.bind_some, tc_bs, tq_let, tc_I1, tc_I2, tc_J1, tc_J2, tc_J3, tc_F1, tc_F2, tc_F3, tc_F4, tc_G1, tc_G2, tc_G3, tc_G4, tc_G5, tc_us, tc_un, s_one, s_holds, s_J13_bitCount, bz_bI, hPs.f]
  have hg1 : tq_gr (tc_mk S c) 98 4 1 = some 101 := by simp (maxSteps := 3000000) (disch := omega) only [Option.bind_some, tc_bs, tq_let, tc_I1, tc_I2, tc_J1, tc_J2, tc_J3, tc_F1, tc_F2, tc_F3, tc_F4, tc_G1, tc_G2, tc_G3, tc_G4, tc_G5, tc_us, tc_un, s_one, s_holds, s_J13_bitCount, bz_bI, hPs.f]
  have hi1 : tq_is (tc_mk S c) 101 5 = some () := by simp (maxSteps := 3000000) (disch := omega) only [Option.bind_some, tc_bs, tq_let, tc_I1, tc_I2, tc_J1, tc_J2, tc_J3, tc_F1, tc_F2, tc_F3, tc_F4, tc_G1, tc_G2, tc_G3, tc_G4, tc_G5, tc_us, tc_un, s_one, s_holds, s_J13_bitCount, bz_bI, hPs.f]
  have hg4 : tq_gr (tc_mk S c) 98 4 4 = some 107 := by simp (maxSteps := 3000000) (disch := omega) only [Option.bind_some, tc_bs, tq_let, tc_I1, tc_I2, tc_J1, tc_J2, tc_J3, tc_F1, tc_F2, tc_F3, tc_F4, tc_G1, tc_G2, tc_G3, tc_G4, tc_G5, tc_us, tc_un, s_one, s_holds, s_J13_bitCount, bz_bI, hPs.f]
  have hi4 : tq_is (tc_mk S c) 107 5 = some () := by simp (maxSteps := 3000000) (disch := omega) only [Option.bind_some, tc_bs, tq_let, tc_I1, tc_I2, tc_J1, tc_J2, tc_J3, tc_F1, tc_F2, tc_F3, tc_F4, tc_G1, tc_G2, tc_G3, tc_G4, tc_G5, tc_us, tc_un, s_one, s_holds, s_J13_bitCount, bz_bI, hPs.f]
  have hsc : f_X5_get 99 (nI q) (tc_mk S c) = some (nI (P.sc q)) := by
    simp (maxSteps := 3000000) (disch := omega) only [Option.bind_some, tc_bs, tq_let, tc_I1, tc_I2, tc_J1, tc_J2, tc_J3, tc_F1, tc_F2, tc_F3, tc_F4, tc_G1, tc_G2, tc_G3, tc_G4, tc_G5, tc_us, tc_un, s_one, s_holds, s_J13_bitCount, bz_bI, hPs.f, rg_in _ (show q < 20 by omega) (show 20 < 2 ^ 31 by decide), pc_sc hPC hq hP.1]
  have W := all_loop (B := f_X4_staysAtNode_b2 98 (nI q) (tc_mk S c)) (f := fun k => decide (P.ax (5 * q + k) = 0 ∨ P.ax (5 * q + k) = 11) && decide (P.cc (5 * q + k) = 0)) (P.sc q) (by omega) (fun k hk => by
    obtain ⟨hax, -, -, hcc, -⟩ := hP.2.2 q k hq hk
    have gax : f_X5_get 101 (nI (5 * q + k)) (tc_mk S c) = some (nI (P.ax (5 * q + k))) := by
      simp (maxSteps := 3000000) (disch := omega) only [Option.bind_some, tc_bs, tq_let, tc_I1, tc_I2, tc_J1, tc_J2, tc_J3, tc_F1, tc_F2, tc_F3, tc_F4, tc_G1, tc_G2, tc_G3, tc_G4, tc_G5, tc_us, tc_un, s_one, s_holds, s_J13_bitCount, bz_bI, hPs.f, rg_in _ (show 5 * q + k < 100 by omega) (show 100 < 2 ^ 31 by decide)]
      rw [(hPC.2.2.1 q k hq hk).1]
    have gcc : f_X5_get 107 (nI (5 * q + k)) (tc_mk S c) = some (nI (P.cc (5 * q + k))) := by
      have := hPC.2.2.2.1 q k (by omega) (by omega)
      rw [if_pos ⟨hq, hk⟩] at this
      simp (maxSteps := 3000000) (disch := omega) only [Option.bind_some, tc_bs, tq_let, tc_I1, tc_I2, tc_J1, tc_J2, tc_J3, tc_F1, tc_F2, tc_F3, tc_F4, tc_G1, tc_G2, tc_G3, tc_G4, tc_G5, tc_us, tc_un, s_one, s_holds, s_J13_bitCount, bz_bI, hPs.f, rg_in _ (show 5 * q + k < 100 by omega) (show 100 < 2 ^ 31 by decide)]
      rw [this]
    have e0 : (nI (P.ax (5 * q + k)) = 0) ↔ P.ax (5 * q + k) = 0 := nI_eq (by omega) (show 0 < 2 ^ 31 by decide)
    have e11 : (nI (P.ax (5 * q + k)) = 11) ↔ P.ax (5 * q + k) = 11 := nI_eq (by omega) (show 11 < 2 ^ 31 by decide)
    have ec : (nI (P.cc (5 * q + k)) ≤ 0) ↔ P.cc (5 * q + k) ≤ 0 := nI_leI (b := 0) (by omega) (by decide)
    dsimp only [f_X4_staysAtNode_b2]
    simp only [hg0, hi0, hsc, Option.bind_some]
    rw [if_neg (show ¬ nI k ≥ nI (P.sc q) from nI_ge hk (by omega))]
    simp only [hPs.is, s_X4_stepAt, hg1, hi1, gax, hg4, hi4, gcc, Option.bind_some, tq_let, nI_1]
    have fin : (if nI (P.cc (5 * q + k)) ≤ 0 then some (Sum.inl (nI (k + 1))) else (some (Sum.inr (Sum.inr 0)) : Option (Int32 ⊕ (Unit ⊕ Int32)))) = some (if decide (P.cc (5 * q + k) = 0) = true then Sum.inl (nI (k + 1)) else Sum.inr (Sum.inr 0)) := by
      by_cases h : P.cc (5 * q + k) = 0
      · rw [if_pos (ec.mpr (by omega))]; simp [h]
      · rw [if_neg (fun w => h (by have := ec.mp w; omega))]; simp [h]
    by_cases h0 : P.ax (5 * q + k) = 0
    · rw [if_pos (e0.mpr h0), Option.bind_some, if_neg (show ¬ (1 : Int32) = 0 by decide), fin]; simp [h0]
    · rw [if_neg (fun w => h0 (e0.mp w))]
      by_cases h11 : P.ax (5 * q + k) = 11
      · rw [if_pos (e11.mpr h11), Option.bind_some, if_neg (show ¬ (1 : Int32) = 0 by decide), fin]; simp [h11]
      · rw [if_neg (fun w => h11 (e11.mp w)), Option.bind_some, if_pos rfl]; simp [h0, h11]) (by
    dsimp only [f_X4_staysAtNode_b2]
    simp only [hg0, hi0, hsc, Option.bind_some]
    rw [if_pos (Int32.le_refl _)])
  unfold f_X4_staysAtNode
  rw [W, Option.bind_some]
  show _ = some (bI (allB _ _))
  cases allB (fun k => decide (P.ax (5 * q + k) = 0 ∨ P.ax (5 * q + k) = 11) && decide (P.cc (5 * q + k) = 0)) (P.sc q) <;> rfl
theorem s_tellable (hPs : tc_Pth S 98) (hPC : PC c 98 P) (hP : P.wf) (hp : p < P.n) (hk : k < P.sc p) (hd : d < P.cc (5 * p + k)) : f_X4_isTellableAtOnce 98 (nI (2 * (5 * p + k) + d)) (tc_mk S c) = some (bI (P.tell (2 * (5 * p + k) + d))) := by
  have h20 := hP.1
  have h5 := hP.2.1 p hp
  have hok := hP.2.2 p k hp hk
  have hcc := hok.2.2.2.1
  obtain ⟨hcw, hco, hcm⟩ := hok.2.2.2.2 d hd
  obtain ⟨q1, q2, q3⟩ := hPC.2.2.2.2 p k d hp hk hd
  have hx : 2 * (5 * p + k) + d < 200 := by omega
  generalize 2 * (5 * p + k) + d = x at *
  have hg5 : tq_gr (tc_mk S c) 98 4 5 = some 109 := by simp (maxSteps := 3000000) (disch := omega) only [Option.bind_some, tc_bs, tq_let, tc_I1, tc_I2, tc_J1, tc_J2, tc_J3, tc_F1, tc_F2, tc_F3, tc_F4, tc_G1, tc_G2, tc_G3, tc_G4, tc_G5, tc_us, tc_un, s_one, s_holds, s_J13_bitCount, bz_bI, hPs.f]
  have hi5 : tq_is (tc_mk S c) 109 5 = some () := by simp (maxSteps := 3000000) (disch := omega) only [Option.bind_some, tc_bs, tq_let, tc_I1, tc_I2, tc_J1, tc_J2, tc_J3, tc_F1, tc_F2, tc_F3, tc_F4, tc_G1, tc_G2, tc_G3, tc_G4, tc_G5, tc_us, tc_un, s_one, s_holds, s_J13_bitCount, bz_bI, hPs.f]
  have hg6 : tq_gr (tc_mk S c) 98 4 6 = some 111 := by simp (maxSteps := 3000000) (disch := omega) only [Option.bind_some, tc_bs, tq_let, tc_I1, tc_I2, tc_J1, tc_J2, tc_J3, tc_F1, tc_F2, tc_F3, tc_F4, tc_G1, tc_G2, tc_G3, tc_G4, tc_G5, tc_us, tc_un, s_one, s_holds, s_J13_bitCount, bz_bI, hPs.f]
  have hi6 : tq_is (tc_mk S c) 111 5 = some () := by simp (maxSteps := 3000000) (disch := omega) only [Option.bind_some, tc_bs, tq_let, tc_I1, tc_I2, tc_J1, tc_J2, tc_J3, tc_F1, tc_F2, tc_F3, tc_F4, tc_G1, tc_G2, tc_G3, tc_G4, tc_G5, tc_us, tc_un, s_one, s_holds, s_J13_bitCount, bz_bI, hPs.f]
  have hg7 : tq_gr (tc_mk S c) 98 4 7 = some 113 := by simp (maxSteps := 3000000) (disch := omega) only [Option.bind_some, tc_bs, tq_let, tc_I1, tc_I2, tc_J1, tc_J2, tc_J3, tc_F1, tc_F2, tc_F3, tc_F4, tc_G1, tc_G2, tc_G3, tc_G4, tc_G5, tc_us, tc_un, s_one, s_holds, s_J13_bitCount, bz_bI, hPs.f]
  have hi7 : tq_is (tc_mk S c) 113 5 = some () := by simp (maxSteps := 3000000) (disch := omega) only [Option.bind_some, tc_bs, tq_let, tc_I1, tc_I2, tc_J1, tc_J2, tc_J3, tc_F1, tc_F2, tc_F3, tc_F4, tc_G1, tc_G2, tc_G3, tc_G4, tc_G5, tc_us, tc_un, s_one, s_holds, s_J13_bitCount, bz_bI, hPs.f]
  have gw : f_X5_get 109 (nI x) (tc_mk S c) = some (nI (P.cw x)) := by
    simp (maxSteps := 3000000) (disch := omega) only [Option.bind_some, tc_bs, tq_let, tc_I1, tc_I2, tc_J1, tc_J2, tc_J3, tc_F1, tc_F2, tc_F3, tc_F4, tc_G1, tc_G2, tc_G3, tc_G4, tc_G5, tc_us, tc_un, s_one, s_holds, s_J13_bitCount, bz_bI, hPs.f, rg_in _ hx (show 200 < 2 ^ 31 by decide)]; rw [q1]
  have e : ∀ u, u < 5 → ((nI (P.cw x) = nI u) ↔ P.cw x = u) := fun u hu => nI_eq (by omega) (by omega)
  have e0 : (nI (P.cw x) = 0) ↔ P.cw x = 0 := e 0 (by decide)
  have e1 : (nI (P.cw x) = 1) ↔ P.cw x = 1 := e 1 (by decide)
  unfold f_X4_isTellableAtOnce Pat.tell
  simp only [hg5, hi5, gw, Option.bind_some]
  by_cases h0 : P.cw x = 0
  · have hm := hcm (.inl h0)
    have gm : f_X5_get 113 (nI x) (tc_mk S c) = some (nI (P.cm x)) := by
      simp (maxSteps := 3000000) (disch := omega) only [Option.bind_some, tc_bs, tq_let, tc_I1, tc_I2, tc_J1, tc_J2, tc_J3, tc_F1, tc_F2, tc_F3, tc_F4, tc_G1, tc_G2, tc_G3, tc_G4, tc_G5, tc_us, tc_un, s_one, s_holds, s_J13_bitCount, bz_bI, hPs.f, rg_in _ hx (show 200 < 2 ^ 31 by decide)]; rw [(q3 (.inl h0)).1]
    have e2 : (nI (P.cm x) = 2) ↔ P.cm x = 2 := nI_eq (by omega) (show 2 < 2 ^ 31 by decide)
    rw [if_pos (e0.mpr h0), if_pos h0]
    simp only [hg7, hi7, gm, Option.bind_some, tq_let]
    by_cases h2 : P.cm x = 2
    · rw [if_pos (e2.mpr h2)]; simp [h2, bI, tq_bz]
    · rw [if_neg (fun w => h2 (e2.mp w))]; simp [h2, bI, tq_bz]
  · rw [if_neg (fun w => h0 (e0.mp w)), if_neg h0]
    by_cases h1 : P.cw x = 1
    · rw [if_pos (e1.mpr h1), if_pos h1]; rfl
    · have hlt := hco (by omega)
      have go : f_X5_get 111 (nI x) (tc_mk S c) = some (nI (P.co x)) := by
        simp (maxSteps := 3000000) (disch := omega) only [Option.bind_some, tc_bs, tq_let, tc_I1, tc_I2, tc_J1, tc_J2, tc_J3, tc_F1, tc_F2, tc_F3, tc_F4, tc_G1, tc_G2, tc_G3, tc_G4, tc_G5, tc_us, tc_un, s_one, s_holds, s_J13_bitCount, bz_bI, hPs.f, rg_in _ hx (show 200 < 2 ^ 31 by decide)]; rw [q2 (by omega)]
      rw [if_neg (fun w => h1 (e1.mp w)), if_neg h1]
      simp only [hg6, hi6, go, hPs.is, s_near hPs hPC hP (show P.co x < P.n by omega), Option.bind_some]
      cases P.near (P.co x) <;> rfl
theorem s_goesDown {a : Nat} (ha : a < 13) (h : tq_H) : f_X4_goesDown (nI a) h = some (bI (dwn a)) := by
  have hc : a = 0 ∨ a = 1 ∨ a = 2 ∨ a = 3 ∨ a = 4 ∨ a = 5 ∨ a = 6 ∨ a = 7 ∨ a = 8 ∨ a = 9 ∨ a = 10 ∨ a = 11 ∨ a = 12 := by omega
  rcases hc with rfl | rfl | rfl | rfl | rfl | rfl | rfl | rfl | rfl | rfl | rfl | rfl | rfl <;> rfl
theorem s_canStream (hPs : tc_Pth S 98) (hPC : PC c 98 P) (hP : P.wf) (hp : p < P.n) : f_X4_canStream 98 (nI p) (tc_mk S c) = some (bI (P.strm p)) := by
  have h20 := hP.1
  have h5 := hP.2.1 p hp
  have hg0 : tq_gr (tc_mk S c) 98 4 0 = some 99 := by simp (maxSteps := 3000000) (disch := omega) only [Option.bind_some, tc_bs, tq_let, tc_I1, tc_I2, tc_J1, tc_J2, tc_J3, tc_F1, tc_F2, tc_F3, tc_F4, tc_G1, tc_G2, tc_G3, tc_G4, tc_G5, tc_us, tc_un, s_one, s_holds, s_J13_bitCount, bz_bI, hPs.f]
  have hi0 : tq_is (tc_mk S c) 99 5 = some () := by simp (maxSteps := 3000000) (disch := omega) only [Option.bind_some, tc_bs, tq_let, tc_I1, tc_I2, tc_J1, tc_J2, tc_J3, tc_F1, tc_F2, tc_F3, tc_F4, tc_G1, tc_G2, tc_G3, tc_G4, tc_G5, tc_us, tc_un, s_one, s_holds, s_J13_bitCount, bz_bI, hPs.f]
  have hg1 : tq_gr (tc_mk S c) 98 4 1 = some 101 := by simp (maxSteps := 3000000) (disch := omega) only [Option.bind_some, tc_bs, tq_let, tc_I1, tc_I2, tc_J1, tc_J2, tc_J3, tc_F1, tc_F2, tc_F3, tc_F4, tc_G1, tc_G2, tc_G3, tc_G4, tc_G5, tc_us, tc_un, s_one, s_holds, s_J13_bitCount, bz_bI, hPs.f]
  have hi1 : tq_is (tc_mk S c) 101 5 = some () := by simp (maxSteps := 3000000) (disch := omega) only [Option.bind_some, tc_bs, tq_let, tc_I1, tc_I2, tc_J1, tc_J2, tc_J3, tc_F1, tc_F2, tc_F3, tc_F4, tc_G1, tc_G2, tc_G3, tc_G4, tc_G5, tc_us, tc_un, s_one, s_holds, s_J13_bitCount, bz_bI, hPs.f]
  have hg4 : tq_gr (tc_mk S c) 98 4 4 = some 107 := by simp (maxSteps := 3000000) (disch := omega) only [Option.bind_some, tc_bs, tq_let, tc_I1, tc_I2, tc_J1, tc_J2, tc_J3, tc_F1, tc_F2, tc_F3, tc_F4, tc_G1, tc_G2, tc_G3, tc_G4, tc_G5, tc_us, tc_un, s_one, s_holds, s_J13_bitCount, bz_bI, hPs.f]
  have hi4 : tq_is (tc_mk S c) 107 5 = some () := by simp (maxSteps := 3000000) (disch := omega) only [Option.bind_some, tc_bs, tq_let, tc_I1, tc_I2, tc_J1, tc_J2, tc_J3, tc_F1, tc_F2, tc_F3, tc_F4, tc_G1, tc_G2, tc_G3, tc_G4, tc_G5, tc_us, tc_un, s_one, s_holds, s_J13_bitCount, bz_bI, hPs.f]
  have hsc : f_X5_get 99 (nI p) (tc_mk S c) = some (nI (P.sc p)) := by
    simp (maxSteps := 3000000) (disch := omega) only [Option.bind_some, tc_bs, tq_let, tc_I1, tc_I2, tc_J1, tc_J2, tc_J3, tc_F1, tc_F2, tc_F3, tc_F4, tc_G1, tc_G2, tc_G3, tc_G4, tc_G5, tc_us, tc_un, s_one, s_holds, s_J13_bitCount, bz_bI, hPs.f, rg_in _ (show p < 20 by omega) (show 20 < 2 ^ 31 by decide), pc_sc hPC hp hP.1]
  have W := all_loop (B := f_X4_canStream_b2 98 (nI p) (tc_mk S c)) (f := fun k => dwn (P.ax (5 * p + k)) && allB (fun d => P.tell (2 * (5 * p + k) + d)) (P.cc (5 * p + k))) (P.sc p) (by omega) (fun k hk => by
    obtain ⟨hax, -, -, hcc, -⟩ := hP.2.2 p k hp hk
    have gax : f_X5_get 101 (nI (5 * p + k)) (tc_mk S c) = some (nI (P.ax (5 * p + k))) := by
      simp (maxSteps := 3000000) (disch := omega) only [Option.bind_some, tc_bs, tq_let, tc_I1, tc_I2, tc_J1, tc_J2, tc_J3, tc_F1, tc_F2, tc_F3, tc_F4, tc_G1, tc_G2, tc_G3, tc_G4, tc_G5, tc_us, tc_un, s_one, s_holds, s_J13_bitCount, bz_bI, hPs.f, rg_in _ (show 5 * p + k < 100 by omega) (show 100 < 2 ^ 31 by decide)]
      rw [(hPC.2.2.1 p k hp hk).1]
    have gcc : f_X5_get 107 (nI (5 * p + k)) (tc_mk S c) = some (nI (P.cc (5 * p + k))) := by
      have := hPC.2.2.2.1 p k (by omega) (by omega)
      rw [if_pos ⟨hp, hk⟩] at this
      simp (maxSteps := 3000000) (disch := omega) only [Option.bind_some, tc_bs, tq_let, tc_I1, tc_I2, tc_J1, tc_J2, tc_J3, tc_F1, tc_F2, tc_F3, tc_F4, tc_G1, tc_G2, tc_G3, tc_G4, tc_G5, tc_us, tc_un, s_one, s_holds, s_J13_bitCount, bz_bI, hPs.f, rg_in _ (show 5 * p + k < 100 by omega) (show 100 < 2 ^ 31 by decide)]
      rw [this]
    have V := all_loop (B := f_X4_canStream_b40 98 (nI p) (nI k) (nI (5 * p + k)) (tc_mk S c)) (f := fun d => P.tell (2 * (5 * p + k) + d)) (P.cc (5 * p + k)) (by omega) (fun d hd => by
      dsimp only [f_X4_canStream_b40]
      simp only [hg4, hi4, gcc, Option.bind_some]
      rw [if_neg (show ¬ nI d ≥ nI (P.cc (5 * p + k)) from nI_ge hd (by omega))]
      simp only [hPs.is, s_X4_conditionAt, s_tellable hPs hPC hP hp hk hd, Option.bind_some, tq_let, nI_1]
      cases P.tell (2 * (5 * p + k) + d) <;> rfl) (by
      dsimp only [f_X4_canStream_b40]
      simp only [hg4, hi4, gcc, Option.bind_some]
      rw [if_pos (Int32.le_refl _)])
    dsimp only [f_X4_canStream_b2]
    simp only [hg0, hi0, hsc, Option.bind_some]
    rw [if_neg (show ¬ nI k ≥ nI (P.sc p) from nI_ge hk (by omega))]
    simp only [hPs.is, s_X4_stepAt, hg1, hi1, gax, s_goesDown (show P.ax (5 * p + k) < 13 by omega), V, Option.bind_some]
    cases dwn (P.ax (5 * p + k)) with
    | false => rfl
    | true =>
      rw [if_neg (by decide)]
      cases allB (fun d => P.tell (2 * (5 * p + k) + d)) (P.cc (5 * p + k)) with
      | false => rfl
      | true => simp only [if_true, tq_let, nI_1, Bool.and_self]) (by
    dsimp only [f_X4_canStream_b2]
    simp only [hg0, hi0, hsc, Option.bind_some]
    rw [if_pos (Int32.le_refl _)])
  unfold f_X4_canStream
  rw [W, Option.bind_some]
  show _ = some (bI (allB _ _))
  cases allB (fun k => dwn (P.ax (5 * p + k)) && allB (fun d => P.tell (2 * (5 * p + k) + d)) (P.cc (5 * p + k))) (P.sc p) <;> rfl
/-- the reference -/
theorem r_near (hM : tc_Mod S z) (hPR : PR c P) (hP : P.wf) (hq : q < P.n) : f_X11_isNear 155 (nI q) (tc_mk S c) = some (bI (P.near q)) := by
  have h20 := hP.1
  have h5 := hP.2.1 q hq
  have hg25 : tq_gr (tc_mk S c) 155 11 25 = some 175 := by simp (maxSteps := 3000000) (disch := omega) only [Option.bind_some, tc_bs, tq_let, tc_I1, tc_I2, tc_J1, tc_J2, tc_J3, tc_F1, tc_F2, tc_F3, tc_F4, tc_G1, tc_G2, tc_G3, tc_G4, tc_G5, tc_us, tc_un, s_one, s_holds, s_J13_bitCount, bz_bI, hM.f]
  have hg26 : tq_gr (tc_mk S c) 155 11 26 = some 176 := by simp (maxSteps := 3000000) (disch := omega) only [Option.bind_some, tc_bs, tq_let, tc_I1, tc_I2, tc_J1, tc_J2, tc_J3, tc_F1, tc_F2, tc_F3, tc_F4, tc_G1, tc_G2, tc_G3, tc_G4, tc_G5, tc_us, tc_un, s_one, s_holds, s_J13_bitCount, bz_bI, hM.f]
  have hg27 : tq_gr (tc_mk S c) 155 11 27 = some 177 := by simp (maxSteps := 3000000) (disch := omega) only [Option.bind_some, tc_bs, tq_let, tc_I1, tc_I2, tc_J1, tc_J2, tc_J3, tc_F1, tc_F2, tc_F3, tc_F4, tc_G1, tc_G2, tc_G3, tc_G4, tc_G5, tc_us, tc_un, s_one, s_holds, s_J13_bitCount, bz_bI, hM.f]
  have hsc : tq_ai (tc_mk S c) 175 (nI q) = some (nI (P.sc q)) := by simp (maxSteps := 3000000) (disch := omega) only [Option.bind_some, tc_bs, tq_let, tc_I1, tc_I2, tc_J1, tc_J2, tc_J3, tc_F1, tc_F2, tc_F3, tc_F4, tc_G1, tc_G2, tc_G3, tc_G4, tc_G5, tc_us, tc_un, s_one, s_holds, s_J13_bitCount, bz_bI, hM.f, show q < 20 from by omega, hPR.2.1 q hq]
  have e5 : (5 : Int32) * nI q = nI (5 * q + 0) := by rw [show (5 : Int32) = nI 5 from rfl, nI_mul, Nat.add_zero]
  have W := tc_iter (B := f_X11_isNear_b6 155 (nI q) (tc_mk S c)) (P.sc q) (fun k => (bI (allB (fun k => decide (P.ax (5 * q + k) = 0 ∨ P.ax (5 * q + k) = 11) && decide (P.cc (5 * q + k) = 0)) k), nI (5 * q + k))) (e := bI (P.near q)) (fun k hk => by
    obtain ⟨hax, -, -, hcc, -⟩ := hP.2.2 q k hq hk
    obtain ⟨g1, -, -, g4, -⟩ := pr_step (S := S) (c := c) hM hPR hP hq hk
    have e0 : (nI (P.ax (5 * q + k)) = 0) ↔ P.ax (5 * q + k) = 0 := nI_eq (by omega) (show 0 < 2 ^ 31 by decide)
    have e11 : (nI (P.ax (5 * q + k)) = 11) ↔ P.ax (5 * q + k) = 11 := nI_eq (by omega) (show 11 < 2 ^ 31 by decide)
    have ec : (nI (P.cc (5 * q + k)) = 0) ↔ P.cc (5 * q + k) = 0 := nI_eq (by omega) (show 0 < 2 ^ 31 by decide)
    dsimp only [f_X11_isNear_b6]
    simp only [hg25, hsc, Option.bind_some]
    rw [e5, nI_add, if_neg (show ¬ nI (5 * q + k) ≥ nI (5 * q + 0 + P.sc q) from nI_ge (by omega) (by omega))]
    simp only [hg26, g1, hg27, g4, Option.bind_some, tq_let, nI_1]
    show _ = some (Sum.inl (bI (allB _ k && _), nI (5 * q + k + 1)))
    cases allB (fun k => decide (P.ax (5 * q + k) = 0 ∨ P.ax (5 * q + k) = 11) && decide (P.cc (5 * q + k) = 0)) k with
    | false => rfl
    | true =>
      rw [if_neg (by decide)]
      by_cases h0 : P.ax (5 * q + k) = 0
      · rw [if_pos (e0.mpr h0)]
        by_cases h : P.cc (5 * q + k) = 0
        · rw [if_pos (ec.mpr h)]; simp [h0, h, bI]
        · rw [if_neg (fun w => h (ec.mp w))]; simp [h, bI]
      · rw [if_neg (fun w => h0 (e0.mp w))]
        by_cases h11 : P.ax (5 * q + k) = 11
        · rw [if_pos (e11.mpr h11)]
          by_cases h : P.cc (5 * q + k) = 0
          · rw [if_pos (ec.mpr h)]; simp [h11, h, bI]
          · rw [if_neg (fun w => h (ec.mp w))]; simp [h, bI]
        · rw [if_neg (fun w => h11 (e11.mp w))]; simp [h0, h11, bI]) (by
    dsimp only [f_X11_isNear_b6]
    simp only [hg25, hsc, Option.bind_some]
    rw [e5, nI_add, Nat.add_zero, if_pos (Int32.le_refl _)]
    rfl) (by unfold tq_N; omega)
  unfold f_X11_isNear
  rw [e5]
  dsimp only [tq_let]
  rw [show ((1 : Int32), nI (5 * q + 0)) = (bI (allB (fun k => decide (P.ax (5 * q + k) = 0 ∨ P.ax (5 * q + k) = 11) && decide (P.cc (5 * q + k) = 0)) 0), nI (5 * q + 0)) from rfl, W, Option.bind_some, bz_bI]
  rfl
theorem r_stream (hM : tc_Mod S z) (hPR : PR c P) (hP : P.wf) (hp : p < P.n) : f_X11_isStreamed 155 (nI p) (tc_mk S c) = some (bI (P.strm p)) := by
  have h20 := hP.1
  have h5 := hP.2.1 p hp
  have hg25 : tq_gr (tc_mk S c) 155 11 25 = some 175 := by simp (maxSteps := 3000000) (disch := omega) only [Option.bind_some, tc_bs, tq_let, tc_I1, tc_I2, tc_J1, tc_J2, tc_J3, tc_F1, tc_F2, tc_F3, tc_F4, tc_G1, tc_G2, tc_G3, tc_G4, tc_G5, tc_us, tc_un, s_one, s_holds, s_J13_bitCount, bz_bI, hM.f]
  have hg26 : tq_gr (tc_mk S c) 155 11 26 = some 176 := by simp (maxSteps := 3000000) (disch := omega) only [Option.bind_some, tc_bs, tq_let, tc_I1, tc_I2, tc_J1, tc_J2, tc_J3, tc_F1, tc_F2, tc_F3, tc_F4, tc_G1, tc_G2, tc_G3, tc_G4, tc_G5, tc_us, tc_un, s_one, s_holds, s_J13_bitCount, bz_bI, hM.f]
  have hg27 : tq_gr (tc_mk S c) 155 11 27 = some 177 := by simp (maxSteps := 3000000) (disch := omega) only [Option.bind_some, tc_bs, tq_let, tc_I1, tc_I2, tc_J1, tc_J2, tc_J3, tc_F1, tc_F2, tc_F3, tc_F4, tc_G1, tc_G2, tc_G3, tc_G4, tc_G5, tc_us, tc_un, s_one, s_holds, s_J13_bitCount, bz_bI, hM.f]
  have hg28 : tq_gr (tc_mk S c) 155 11 28 = some 178 := by simp (maxSteps := 3000000) (disch := omega) only [Option.bind_some, tc_bs, tq_let, tc_I1, tc_I2, tc_J1, tc_J2, tc_J3, tc_F1, tc_F2, tc_F3, tc_F4, tc_G1, tc_G2, tc_G3, tc_G4, tc_G5, tc_us, tc_un, s_one, s_holds, s_J13_bitCount, bz_bI, hM.f]
  have his : tq_is (tc_mk S c) 155 11 = some () := by simp (maxSteps := 3000000) (disch := omega) only [Option.bind_some, tc_bs, tq_let, tc_I1, tc_I2, tc_J1, tc_J2, tc_J3, tc_F1, tc_F2, tc_F3, tc_F4, tc_G1, tc_G2, tc_G3, tc_G4, tc_G5, tc_us, tc_un, s_one, s_holds, s_J13_bitCount, bz_bI, hM.f]
  have hsc : tq_ai (tc_mk S c) 175 (nI p) = some (nI (P.sc p)) := by simp (maxSteps := 3000000) (disch := omega) only [Option.bind_some, tc_bs, tq_let, tc_I1, tc_I2, tc_J1, tc_J2, tc_J3, tc_F1, tc_F2, tc_F3, tc_F4, tc_G1, tc_G2, tc_G3, tc_G4, tc_G5, tc_us, tc_un, s_one, s_holds, s_J13_bitCount, bz_bI, hM.f, show p < 20 from by omega, hPR.2.1 p hp]
  have e5 : (5 : Int32) * nI p = nI (5 * p + 0) := by rw [show (5 : Int32) = nI 5 from rfl, nI_mul, Nat.add_zero]
  have W := tc_iter (B := f_X11_isStreamed_b6 155 (nI p) (tc_mk S c)) (P.sc p) (fun k => (bI (allB (fun k => dwn (P.ax (5 * p + k)) && allB (fun d => P.tell (2 * (5 * p + k) + d)) (P.cc (5 * p + k))) k), nI (5 * p + k))) (e := bI (P.strm p)) (fun k hk => by
    obtain ⟨hax, -, -, hcc, hcd⟩ := hP.2.2 p k hp hk
    obtain ⟨g1, -, -, g4, -⟩ := pr_step (S := S) (c := c) hM hPR hP hp hk
    dsimp only [f_X11_isStreamed_b6]
    simp only [hg25, hsc, Option.bind_some]
    rw [e5, nI_add, if_neg (show ¬ nI (5 * p + k) ≥ nI (5 * p + 0 + P.sc p) from nI_ge (by omega) (by omega))]
    simp only [hg26, g1, Option.bind_some, tq_let, nI_1]
    show _ = some (Sum.inl (bI (allB _ k && _), nI (5 * p + k + 1)))
    have hd : ∀ u : Bool, (if bI u = 0 then (0 : Int32) else if nI (P.ax (5 * p + k)) = 0 then 1 else if nI (P.ax (5 * p + k)) = 1 then 1 else if nI (P.ax (5 * p + k)) = 3 then 1 else if nI (P.ax (5 * p + k)) = 4 then 1 else if nI (P.ax (5 * p + k)) = 11 then 1 else 0) = bI (u && dwn (P.ax (5 * p + k))) := by
      intro u
      cases u with
      | false => rfl
      | true =>
        have hc : P.ax (5 * p + k) = 0 ∨ P.ax (5 * p + k) = 1 ∨ P.ax (5 * p + k) = 2 ∨ P.ax (5 * p + k) = 3 ∨ P.ax (5 * p + k) = 4 ∨ P.ax (5 * p + k) = 5 ∨ P.ax (5 * p + k) = 6 ∨ P.ax (5 * p + k) = 7 ∨ P.ax (5 * p + k) = 8 ∨ P.ax (5 * p + k) = 9 ∨ P.ax (5 * p + k) = 10 ∨ P.ax (5 * p + k) = 11 ∨ P.ax (5 * p + k) = 12 := by omega
        rcases hc with h | h | h | h | h | h | h | h | h | h | h | h | h <;> rw [h] <;> rfl
    rw [hd]
    generalize allB (fun k => dwn (P.ax (5 * p + k)) && allB (fun d => P.tell (2 * (5 * p + k) + d)) (P.cc (5 * p + k))) k = u
    have V := tc_scan (B := f_X11_isStreamed_b73 155 (nI p) (nI (5 * p + k)) (tc_mk S c)) (P.cc (5 * p + k)) (fun d => bI ((u && dwn (P.ax (5 * p + k))) && allB (fun d => P.tell (2 * (5 * p + k) + d)) d)) (e := bI ((u && dwn (P.ax (5 * p + k))) && allB (fun d => P.tell (2 * (5 * p + k) + d)) (P.cc (5 * p + k)))) (by omega) (fun d hd => by
      obtain ⟨hcw, hco, hcm⟩ := hcd d hd
      obtain ⟨q1, q2, q3⟩ := hPR.2.2.2 p k d hp hk hd
      have hx : 2 * (5 * p + k) + d < 200 := by omega
      have e4 : (4 : Int32) * ((2 : Int32) * nI (5 * p + k) + nI d) = nI (4 * (2 * (5 * p + k) + d)) := by
        rw [show (2 : Int32) = nI 2 from rfl, nI_mul, nI_add, show (4 : Int32) = nI 4 from rfl, nI_mul]
      show _ = some (Sum.inl (bI (_ && (allB _ d && P.tell (2 * (5 * p + k) + d))), nI (d + 1)))
      rw [← Bool.and_assoc]
      dsimp only [f_X11_isStreamed_b73]
      simp only [hg27, g4, Option.bind_some]
      rw [if_neg (show ¬ nI d ≥ nI (P.cc (5 * p + k)) from nI_ge hd (by omega)), e4]
      generalize 2 * (5 * p + k) + d = x at *
      have a1 : nI (4 * x) + 1 = nI (4 * x + 1) := nI_1 _
      have a2 : nI (4 * x) + 2 = nI (4 * x + 2) := nI_add _ 2
      have gw : tq_ai (tc_mk S c) 178 (nI (4 * x)) = some (nI (P.cw x)) := by simp (maxSteps := 3000000) (disch := omega) only [Option.bind_some, tc_bs, tq_let, tc_I1, tc_I2, tc_J1, tc_J2, tc_J3, tc_F1, tc_F2, tc_F3, tc_F4, tc_G1, tc_G2, tc_G3, tc_G4, tc_G5, tc_us, tc_un, s_one, s_holds, s_J13_bitCount, bz_bI, hM.f, q1]
      have e : ∀ u, u < 5 → ((nI (P.cw x) = nI u) ↔ P.cw x = u) := fun u hu => nI_eq (by omega) (by omega)
      have e0 : (nI (P.cw x) = 0) ↔ P.cw x = 0 := e 0 (by decide)
      have e1 : (nI (P.cw x) = 1) ↔ P.cw x = 1 := e 1 (by decide)
      simp only [tq_let, hg28, gw, a1, a2, Option.bind_some, nI_1]
      generalize ((u && dwn (P.ax (5 * p + k))) && allB (fun d => P.tell (2 * (5 * p + k) + d)) d) = v
      cases v with
      | false => rfl
      | true =>
        rw [if_neg (by decide)]
        unfold Pat.tell
        by_cases h0 : P.cw x = 0
        · have hm := hcm (.inl h0)
          have gm : tq_ai (tc_mk S c) 178 (nI (4 * x + 2)) = some (nI (P.cm x)) := by simp (maxSteps := 3000000) (disch := omega) only [Option.bind_some, tc_bs, tq_let, tc_I1, tc_I2, tc_J1, tc_J2, tc_J3, tc_F1, tc_F2, tc_F3, tc_F4, tc_G1, tc_G2, tc_G3, tc_G4, tc_G5, tc_us, tc_un, s_one, s_holds, s_J13_bitCount, bz_bI, hM.f, (q3 (.inl h0)).1]
          have e2 : (nI (P.cm x) = 2) ↔ P.cm x = 2 := nI_eq (by omega) (show 2 < 2 ^ 31 by decide)
          rw [if_pos (e0.mpr h0), if_pos h0, gm, Option.bind_some]
          by_cases h2 : P.cm x = 2
          · rw [if_pos (e2.mpr h2)]; simp [h2, bI]
          · rw [if_neg (fun w => h2 (e2.mp w))]; simp [h2, bI]
        · rw [if_neg (fun w => h0 (e0.mp w)), if_neg h0]
          by_cases h1 : P.cw x = 1
          · rw [if_pos (e1.mpr h1), if_pos h1]; rfl
          · have hlt := hco (by omega)
            have go : tq_ai (tc_mk S c) 178 (nI (4 * x + 1)) = some (nI (P.co x)) := by simp (maxSteps := 3000000) (disch := omega) only [Option.bind_some, tc_bs, tq_let, tc_I1, tc_I2, tc_J1, tc_J2, tc_J3, tc_F1, tc_F2, tc_F3, tc_F4, tc_G1, tc_G2, tc_G3, tc_G4, tc_G5, tc_us, tc_un, s_one, s_holds, s_J13_bitCount, bz_bI, hM.f, q2 (by omega)]
            rw [if_neg (fun w => h1 (e1.mp w)), if_neg h1, go, Option.bind_some, his, Option.bind_some, r_near hM hPR hP (show P.co x < P.n by omega), Option.bind_some]
            cases P.near (P.co x) <;> rfl) (by
      dsimp only [f_X11_isStreamed_b73]
      simp only [hg27, g4, Option.bind_some]
      rw [if_pos (Int32.le_refl _)])
    have e0 : bI ((u && dwn (P.ax (5 * p + k))) && allB (fun d => P.tell (2 * (5 * p + k) + d)) 0) = bI (u && dwn (P.ax (5 * p + k))) := by show bI (_ && true) = _; rw [Bool.and_true]
    rw [e0] at V
    rw [V, Option.bind_some, Bool.and_assoc]) (by
    dsimp only [f_X11_isStreamed_b6]
    simp only [hg25, hsc, Option.bind_some]
    rw [e5, nI_add, Nat.add_zero, if_pos (Int32.le_refl _)]
    rfl) (by unfold tq_N; omega)
  unfold f_X11_isStreamed
  rw [e5]
  dsimp only [tq_let]
  rw [show ((1 : Int32), nI (5 * p + 0)) = (bI (allB (fun k => dwn (P.ax (5 * p + k)) && allB (fun d => P.tell (2 * (5 * p + k) + d)) (P.cc (5 * p + k))) 0), nI (5 * p + 0)) from rfl, W, Option.bind_some, bz_bI]
  rfl
/-- elements and texts; elements of a name -/
def Doc.slds (D : Doc) : Nat := fb_ct (fun j => decide (j < D.n ∧ D.kd j ≠ 2)) 64
def Doc.nmd (D : Doc) (x : Int32) : Nat := fb_ct (fun j => decide (j < D.n ∧ D.kd j = 0 ∧ D.nm j = x)) 64
theorem r_plan (hM : tc_Mod S z) (hw : D.wf) (hR : RTree c D m) (hO : ROrd c D) (w : Int32) (x : Int32) : tq_loop (f_X11_plan_b69 155 w x (tc_mk S c)) tq_N (0, 0, 0) = some (nI D.slds, nI (D.nmd x)) := by
  have hn := D.n_le hw
  obtain ⟨-, -, -, -, r5, r6, -⟩ := hR
  have hgn : tq_gi (tc_mk S c) 155 11 11 = some (nI D.n) := by simp (maxSteps := 3000000) (disch := omega) only [Option.bind_some, tc_bs, tq_let, tc_I1, tc_I2, tc_J1, tc_J2, tc_J3, tc_F1, tc_F2, tc_F3, tc_F4, tc_G1, tc_G2, tc_G3, tc_G4, tc_G5, tc_us, tc_un, s_one, s_holds, s_J13_bitCount, bz_bI, hM.f, hO.1]
  have hg12 : tq_gr (tc_mk S c) 155 11 12 = some 164 := by simp (maxSteps := 3000000) (disch := omega) only [Option.bind_some, tc_bs, tq_let, tc_I1, tc_I2, tc_J1, tc_J2, tc_J3, tc_F1, tc_F2, tc_F3, tc_F4, tc_G1, tc_G2, tc_G3, tc_G4, tc_G5, tc_us, tc_un, s_one, s_holds, s_J13_bitCount, bz_bI, hM.f]
  have hg2 : tq_gr (tc_mk S c) 155 11 2 = some 156 := by simp (maxSteps := 3000000) (disch := omega) only [Option.bind_some, tc_bs, tq_let, tc_I1, tc_I2, tc_J1, tc_J2, tc_J3, tc_F1, tc_F2, tc_F3, tc_F4, tc_G1, tc_G2, tc_G3, tc_G4, tc_G5, tc_us, tc_un, s_one, s_holds, s_J13_bitCount, bz_bI, hM.f]
  have hg3 : tq_gr (tc_mk S c) 155 11 3 = some 157 := by simp (maxSteps := 3000000) (disch := omega) only [Option.bind_some, tc_bs, tq_let, tc_I1, tc_I2, tc_J1, tc_J2, tc_J3, tc_F1, tc_F2, tc_F3, tc_F4, tc_G1, tc_G2, tc_G3, tc_G4, tc_G5, tc_us, tc_un, s_one, s_holds, s_J13_bitCount, bz_bI, hM.f]
  have e1 : D.slds = fb_ct (fun j => decide (D.kd j ≠ 2)) D.n := by
    unfold Doc.slds
    rw [ct_cut (n := D.n) 64 (fun j hj => by simp; omega) (by omega)]
    exact fb_ct_cong fun k hk => by simp [hk]
  have e2 : D.nmd x = fb_ct (fun j => decide (D.kd j = 0 ∧ D.nm j = x)) D.n := by
    unfold Doc.nmd
    rw [ct_cut (n := D.n) 64 (fun j hj => by simp; omega) (by omega)]
    exact fb_ct_cong fun k hk => by simp [hk]
  rw [e1, e2]
  refine tc_iter (B := f_X11_plan_b69 155 w x (tc_mk S c)) D.n (fun t => (nI (fb_ct (fun j => decide (D.kd j ≠ 2)) t), nI (fb_ct (fun j => decide (D.kd j = 0 ∧ D.nm j = x)) t), nI t)) (fun t ht => ?_) ?_ (by unfold tq_N; omega)
  · have ot := D.ord_lt hw ht
    have ho : tq_ai (tc_mk S c) 164 (nI t) = some (nI (D.ord t)) := by simp (maxSteps := 3000000) (disch := omega) only [Option.bind_some, tc_bs, tq_let, tc_I1, tc_I2, tc_J1, tc_J2, tc_J3, tc_F1, tc_F2, tc_F3, tc_F4, tc_G1, tc_G2, tc_G3, tc_G4, tc_G5, tc_us, tc_un, s_one, s_holds, s_J13_bitCount, bz_bI, hM.f, show t < 60 from by omega, hO.2.1 t ht]
    have hk : tq_ai (tc_mk S c) 156 (nI (D.ord t)) = some (D.kd t) := by simp (maxSteps := 3000000) (disch := omega) only [Option.bind_some, tc_bs, tq_let, tc_I1, tc_I2, tc_J1, tc_J2, tc_J3, tc_F1, tc_F2, tc_F3, tc_F4, tc_G1, tc_G2, tc_G3, tc_G4, tc_G5, tc_us, tc_un, s_one, s_holds, s_J13_bitCount, bz_bI, hM.f, r5 t ht]
    have hnm : tq_ai (tc_mk S c) 157 (nI (D.ord t)) = some (D.nm t) := by simp (maxSteps := 3000000) (disch := omega) only [Option.bind_some, tc_bs, tq_let, tc_I1, tc_I2, tc_J1, tc_J2, tc_J3, tc_F1, tc_F2, tc_F3, tc_F4, tc_G1, tc_G2, tc_G3, tc_G4, tc_G5, tc_us, tc_un, s_one, s_holds, s_J13_bitCount, bz_bI, hM.f, r6 t ht]
    dsimp only [f_X11_plan_b69]
    rw [hgn, Option.bind_some, if_neg (show ¬ nI t ≥ nI D.n from nI_ge ht (by omega))]
    simp only [hg12, ho, hg2, hk, hg3, hnm, Option.bind_some, tq_let, nI_1, fb_ct_succ]
    by_cases h2 : D.kd t = 2
    · have h0 : ¬ D.kd t = 0 := by rw [h2]; decide
      rw [if_pos h2, if_neg h0]; simp [h2]
    · rw [if_neg h2]
      by_cases h0 : D.kd t = 0
      · rw [if_pos h0]
        by_cases hx : D.nm t = x
        · rw [if_pos hx]; simp [h0, hx, nI_1]
        · rw [if_neg hx]; simp [h0, hx, nI_1]
      · rw [if_neg h0]; simp [h0, h2, nI_1]
  · dsimp only [f_X11_plan_b69]
    rw [hgn, Option.bind_some, if_pos (Int32.le_refl _)]
end PLN
