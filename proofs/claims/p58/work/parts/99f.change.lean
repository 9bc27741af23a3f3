/-! ===== the class does the updates one by one ===== -/
/-- the class's list at g is the updates -/
def UC (c : tc_C) (g : Nat) (U : Ups) : Prop :=
  c.2.2.1 g 11 = nI U.n ∧ U.n ≤ 20 ∧ (∀ k, k < U.n → c.1 (g + 2) k = nI (U.uw k)) ∧ (∀ k, k < U.n → c.1 (g + 4) k = if U.uw k = 0 then -1 else nI (U.ut k)) ∧
  (∀ k, k < U.n → c.1 (g + 6) k = if U.uw k = 0 ∨ U.uw k = 4 then nI (U.up k) else -1) ∧
  (∀ k, k < U.n → c.1 (g + 8) k = if U.uw k = 4 ∨ (U.uw k = 0 ∧ U.uk k ≠ 2) then nI (U.ul k) else -1) ∧
  (∀ k, k < U.n → U.uw k = 0 → c.1 (g + 10) k = nI (U.uk k) ∧ c.1 (g + 12) k = U.un k) ∧
  (∀ k, k < U.n → U.uw k ≠ 1 → U.uw k ≠ 4 → c.1 (g + 14) k = U.uc k)
def Ups.fr (U : Ups) (m K v : Nat) : Bool := anyB (fun j => decide ((U.uw j = 0 ∨ U.uw j = 4) ∧ U.sj m j = v)) K
def Ups.et (U : Ups) (K v : Nat) : Bool := anyB (fun j => decide ((U.uw j = 0 ∨ U.uw j = 4) ∧ U.up j = v)) K
/-- after so many updates -/
def CH (c : tc_C) (b g m : Nat) (D : Doc) (U : Ups) (N0 : Nat → Int32) (K : Nat) : Prop :=
  c.2.2.1 b 10 = nI (m + U.ins K) ∧
  (∀ v, U.In m D K v → c.1 (b + 23) v = (U.rw m D.rws K).1 v ∧ c.1 (b + 25) v = (U.rw m D.rws K).2.1 v ∧ c.1 (b + 27) v = (U.rw m D.rws K).2.2.1 v ∧ c.1 (b + 29) v = (U.rw m D.rws K).2.2.2 v) ∧
  (∀ i, i < D.n → c.1 (b + 33) (D.ord i) = N0 (D.ord i)) ∧ (∀ k, k < K → U.uw k = 0 → c.1 (b + 33) (m + U.ins k) = -1) ∧
  (∀ k, k < K → U.uw k = 0 ∨ U.uw k = 4 → c.1 (g + 16) k = nI (U.sj m k)) ∧
  c.2.2.2.1 g 8 = mkS (U.fr m K) ∧ c.2.2.2.1 g 9 = mkS (U.tk K) ∧ c.2.2.2.1 g 10 = mkS (U.et K)
def Cf (b g : Nat) (c c' : tc_C) : Prop :=
  (∀ a, a ≠ b + 23 → a ≠ b + 25 → a ≠ b + 27 → a ≠ b + 29 → a ≠ b + 33 → a ≠ g + 16 → c'.1 a = c.1 a) ∧ c'.2.1 = c.2.1 ∧ (∀ a, a ≠ b → c'.2.2.1 a = c.2.2.1 a) ∧ (∀ a, a ≠ g → c'.2.2.2.1 a = c.2.2.2.1 a) ∧ c'.2.2.2.2 = c.2.2.2.2
section CHG
variable {S : tq_H} {c c' c'' : tc_C} {b g m i j e k v K : Nat} {U : Ups} {D : Doc} {N0 : Nat → Int32}
theorem Cf.refl (c : tc_C) : Cf b g c c := ⟨fun _ _ _ _ _ _ _ => rfl, rfl, fun _ _ => rfl, fun _ _ => rfl, rfl⟩
theorem Cf.trans (h : Cf b g c c') (l : Cf b g c' c'') : Cf b g c c'' := ⟨fun a z1 z2 z3 z4 z5 z6 => (l.1 a z1 z2 z3 z4 z5 z6).trans (h.1 a z1 z2 z3 z4 z5 z6), l.2.1.trans h.2.1, fun a z => (l.2.2.1 a z).trans (h.2.2.1 a z), fun a z => (l.2.2.2.1 a z).trans (h.2.2.2.1 a z), l.2.2.2.2.trans h.2.2.2.2⟩
theorem UC.cf (h : UC c g U) (hA : b + 40 ≤ g) (l : Cf b g c c') : UC c' g U := by
  obtain ⟨l1, -, l3, -⟩ := l
  unfold UC
  rw [l3 g (by omega), l1 (g + 2) (by omega) (by omega) (by omega) (by omega) (by omega) (by omega), l1 (g + 4) (by omega) (by omega) (by omega) (by omega) (by omega) (by omega), l1 (g + 6) (by omega) (by omega) (by omega) (by omega) (by omega) (by omega), l1 (g + 8) (by omega) (by omega) (by omega) (by omega) (by omega) (by omega), l1 (g + 10) (by omega) (by omega) (by omega) (by omega) (by omega) (by omega), l1 (g + 12) (by omega) (by omega) (by omega) (by omega) (by omega) (by omega), l1 (g + 14) (by omega) (by omega) (by omega) (by omega) (by omega) (by omega)]
  exact h
/-- one more for a set -/
theorem any_add {P : Nat → Prop} [DecidablePred P] {f : Nat → Nat} (h : P K) (hf : f K < 64) : mkS (fun v => anyB (fun j => decide (P j ∧ f j = v)) K) ||| oneI (nI (f K)) = mkS (fun v => anyB (fun j => decide (P j ∧ f j = v)) (K + 1)) := by
  rw [oneI_in (by omega), mkS_b1, mkS_or]
  refine mkS_cong fun v hv => ?_
  rw [anyB]
  congr 1
  simp [h]
  exact ⟨fun e => e.symm, fun e => e.symm⟩
theorem any_not {P : Nat → Prop} [DecidablePred P] {f : Nat → Nat} (h : ¬ P K) : mkS (fun v => anyB (fun j => decide (P j ∧ f j = v)) (K + 1)) = mkS (fun v => anyB (fun j => decide (P j ∧ f j = v)) K) := by
  refine mkS_cong fun v hv => ?_
  rw [anyB]; simp [h]
theorem Ups.ins_s : U.ins (K + 1) = U.ins K + (if U.uw K = 0 then 1 else 0) := by
  unfold Ups.ins
  rw [fb_ct_succ]
  by_cases q : U.uw K = 0 <;> simp [q]
theorem In_s (h : U.uw K ≠ 0) : U.In m D (K + 1) v ↔ U.In m D K v := by
  unfold Ups.In
  refine or_congr Iff.rfl ⟨?_, ?_⟩
  · rintro ⟨k, a, b, d⟩
    refine ⟨k, ?_, b, d⟩
    rcases Nat.lt_or_ge k K with q | q
    · exact q
    · exfalso; rw [show k = K by omega] at b; exact h b
  · rintro ⟨k, a, b, d⟩; exact ⟨k, by omega, b, d⟩
theorem In_0 (h : U.uw K = 0) : U.In m D (K + 1) v ↔ U.In m D K v ∨ v = m + U.ins K := by
  unfold Ups.In
  constructor
  · rintro (h | ⟨k, a, b, d⟩)
    · exact .inl (.inl h)
    · rcases Nat.lt_or_ge k K with q | q
      · exact .inl (.inr ⟨k, q, b, d⟩)
      · rw [show k = K by omega] at d; exact .inr d
  · rintro ((h | ⟨k, a, b, d⟩) | e)
    · exact .inl h
    · exact .inr ⟨k, by omega, b, d⟩
    · exact .inr ⟨K, by omega, h, e⟩
theorem In_ne (hu : U.wf m D) (h : U.In m D K v) : v ≠ m + U.ins K := fun z => by
  rcases h with ⟨i, hi, rfl⟩ | ⟨k, k1, k2, rfl⟩
  · have := hu.1.2.2 i hi; omega
  · have := U.ins_lt k2 k1; omega
/-- an insertion -/
theorem ch_ins (hT : tc_Tree S b) (hU : tc_Upd S g) (hA : b + 40 ≤ g) (hw : D.wf) (hu : U.wf m D) (hr : m + U.ins U.n ≤ 60) (hC : UC c g U) (hK : K < U.n) (h0 : U.uw K = 0) (h : CH c b g m D U N0 K) :
    ∃ c', f_X9_change g b (nI K) (tc_mk S c) = some (tc_mk S c') ∧ CH c' b g m D U N0 (K + 1) ∧ Cf b g c c' := by
  obtain ⟨u1, u2, u3, u4, u5, u6, u7, u8⟩ := hC
  obtain ⟨p1, p2, p3, p4, p5, p6, p7, p8⟩ := h
  have a1 := u3 K hK
  have a2 := u4 K hK
  have a3 := u5 K hK
  have a5 := u8 K hK (by omega) (by omega)
  obtain ⟨a6, a7⟩ := u7 K hK h0
  rw [h0] at a1
  rw [if_pos h0] at a2
  rw [if_pos (.inl h0)] at a3
  have a1 : c.1 (g + 2) K = 0 := a1
  have hlt := U.ins_lt h0 hK
  have hup : U.up K < 60 := by
    obtain ⟨i, i1, i2, -⟩ := hu.2.2.2.1 K hK (.inl h0)
    rw [i2]; exact D.ord_lt hw i1
  have r20 : ∀ f : Nat → Int32, rg 20 f (nI K) = f K := fun f => rg_in f (by omega) (by decide)
  have s20 : ∀ (f : Nat → Int32) x, rs 20 f (nI K) x = upd f K x := fun f x => rs_in f x (by omega) (by decide)
  have s60 : ∀ (f : Nat → Int32) x, rs 60 f (nI (m + U.ins K)) x = upd f (m + U.ins K) x := fun f x => rs_in f x (by omega) (by decide)
  have e1 : nI (m + U.ins K) + 1 = nI (m + U.ins K + 1) := nI_1 _
  simp (maxSteps := 3000000) (disch := omega) only [Option.bind_some, tc_bs, tq_let, tc_I1, tc_I2, tc_J1, tc_J2, tc_J3, tc_F1, tc_F2, tc_F3, tc_F4, tc_G1, tc_G2, tc_G3, tc_G4, tc_G5, tc_us, tc_un, s_one, s_holds, s_J13_bitCount, bz_bI, f_X9_change, f_X8_make, hT.f, hU.f, r20, s20, a1, a2, a3, a5, a6, a7, p1, s60, if_true]
  refine ⟨_, rfl, ⟨?_, fun v hv => ?_, fun i hi => ?_, fun k hk hk0 => ?_, fun k hk hk0 => ?_, ?_, ?_, ?_⟩, ⟨fun a z1 z2 z3 z4 z5 z6 => ?_, ?_, fun a z => ?_, fun a z => ?_, ?_⟩⟩
  all_goals simp (maxSteps := 3000000) (disch := omega) only [Option.bind_some, tc_bs, tq_let, tc_I1, tc_I2, tc_J1, tc_J2, tc_J3, tc_F1, tc_F2, tc_F3, tc_F4, tc_G1, tc_G2, tc_G3, tc_G4, tc_G5, tc_us, tc_un, s_one, s_holds, s_J13_bitCount, bz_bI, if_true, upd_s]
  · rw [e1, U.ins_s, if_pos h0]; rfl
  · have hrw : U.rw m D.rws (K + 1) = (upd (U.rw m D.rws K).1 (m + U.ins K) (nI (U.uk K)), upd (U.rw m D.rws K).2.1 (m + U.ins K) (U.un K), upd (U.rw m D.rws K).2.2.1 (m + U.ins K) (U.uc K), upd (U.rw m D.rws K).2.2.2 (m + U.ins K) (-1)) := if_pos h0
    rw [hrw]
    rcases (In_0 h0).mp hv with q | q
    · have hne := In_ne hu q
      simp only [upd_n _ _ hne]
      exact p2 v q
    · subst q
      simp only [upd_s]
      exact ⟨trivial, trivial, trivial, trivial⟩
  · rw [upd_n _ _ (by have := hu.1.2.2 i hi; omega)]; exact p3 i hi
  · by_cases q : k = K
    · subst q; rw [upd_s]
    · have := U.ins_lt hk0 (show k < K by omega)
      rw [upd_n _ _ (by omega)]; exact p4 k (by omega) hk0
  · have hs : U.sj m K = m + U.ins K := if_pos h0
    by_cases q : k = K
    · subst q; rw [upd_s, hs]
    · rw [upd_n _ _ q]; exact p5 k (by omega) hk0
  · rw [p6]
    have hs : U.sj m K = m + U.ins K := if_pos h0
    rw [← hs]
    exact any_add (P := fun j => U.uw j = 0 ∨ U.uw j = 4) (f := U.sj m) (.inl h0) (by rw [hs]; omega)
  · rw [p7]
    exact (any_not (P := fun j => U.uw j = 1 ∨ U.uw j = 4) (f := U.ut) (by omega)).symm
  · rw [p8]
    exact any_add (P := fun j => U.uw j = 0 ∨ U.uw j = 4) (f := U.up) (.inl h0) (by omega)
end CHG
