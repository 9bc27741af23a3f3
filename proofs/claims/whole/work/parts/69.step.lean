/-! ===== the class finds: a step ===== -/
/-- what stands before a step: the tables of the paths below r -/
def Tb (c : tc_C) (b : Nat) (D : Doc) (T : Nat → Nat → Nat → Bool) (r : Nat) : Prop := ∀ p i, p < r → i < D.n → c.2.1 (b + 2) (60 * p + i) = mkS (T p i)
def Lp (c : tc_C) (b : Nat) (D : Doc) (G : Nat → Nat → Bool) : Prop := ∀ i, i < D.n → c.2.1 (b + 4) i = mkS (G i)
section FS
variable {S : tq_H} {c c' : tc_C} {b p k d m r : Nat} {D : Doc} {P : Pat} {Q : Nat → Bool} {T : Nat → Nat → Nat → Bool} {G : Nat → Nat → Bool}
theorem Tb.kp {lo hi : Nat} (h : Tb c b D T r) (k : Kp lo hi c c') (hd : hi ≤ b + 2 ∨ b + 3 ≤ lo) : Tb c' b D T r := by
  intro p i h1 h2
  rw [k.2.1 (b + 2) (by omega)]
  exact h p i h1 h2
theorem tb_union (hS : tc_Fnd S b) (hw : D.wf) (hT : Tb c b D T r) (hp : p < r) (hr : r ≤ 20) {X : Nat → Bool} (hX : ∀ m, X m = true → m < D.n) : f_X7_union (b + 1) (nI (60 * p)) (mkS X) (tc_mk S c) = some (mkS (fun j => anyB (fun m => X m && T p m j) D.n)) := by
  have hn := D.n_le hw
  rw [s_X7_union hS.2.1 (show 60 * p < 2 ^ 30 by omega)]
  congr 1
  refine orTo_mkS (by omega) hX (fun m hm => ?_)
  rw [sg_in _ (show 60 * p + m < 1200 by omega) (by decide)]
  exact hT p m hp hm
theorem s_reachByAxis (hS : tc_Fnd S b) (hb : 117 ≤ b) (hTr : tc_Tree S 1) (hw : D.wf) (hL : Lay c 1 D) (hQ : c.2.2.2.1 b 6 = mkS Q) {a : Nat} (ha : a < 12) (X : Nat → Bool) :
    ∃ c', f_X2_reachByAxis b (nI a) (mkS X) (tc_mk S c) = some (tc_mk S c') ∧ Lp c' b D (fun i j => (D.ax a i j && X j) && Q j) ∧ Kp (b + 4) (b + 5) c c' := by
  have hn := D.n_le hw
  have W := tc_row (S := S) (c := c) (a := b + 4) (o := 0) (n := D.n) (B := f_X2_reachByAxis_b3 b (nI a) (mkS X)) (fun i => mkS (fun j => (D.ax a i j && X j) && Q j)) (by omega) (fun i g hi _ => ?_) (fun g => ?_)
  · obtain ⟨c1, w1, w2, -, w4⟩ := W
    refine ⟨c1, ?_, fun i hi => by have := w2 i hi; rwa [Nat.zero_add] at this, w4⟩
    unfold f_X2_reachByAxis
    rw [w1]; rfl
  · have hL' := hL.kp (Kp.J (c := c) (a := b + 4) (lo := b + 4) (hi := b + 5) g (by omega) (by omega)) (by omega)
    dsimp only [f_X2_reachByAxis_b3]
    simp (maxSteps := 3000000) (disch := omega) only [Option.bind_some, tc_bs, tq_let, tc_I1, tc_I2, tc_J1, tc_J2, tc_J3, tc_F1, tc_F2, tc_F3, tc_F4, tc_G1, tc_G2, tc_G3, tc_G4, tc_G5, tc_us, tc_un, s_one, s_holds, s_J13_bitCount, bz_bI, hS.f, hTr.is, s_X3_count hTr hL', s_X3_reached hTr hw hL' hi ha, hQ, mkS_and, nI_1]
    rw [if_neg (show ¬ nI i ≥ nI D.n from nI_ge hi (by omega)), tc_J_J, Nat.zero_add, ss_in _ _ (show i < 60 by omega) (by decide)]
  · have hL' := hL.kp (Kp.J (c := c) (a := b + 4) (lo := b + 4) (hi := b + 5) g (by omega) (by omega)) (by omega)
    dsimp only [f_X2_reachByAxis_b3]
    simp (maxSteps := 3000000) (disch := omega) only [Option.bind_some, tc_bs, tq_let, tc_I1, tc_I2, tc_J1, tc_J2, tc_J3, tc_F1, tc_F2, tc_F3, tc_F4, tc_G1, tc_G2, tc_G3, tc_G4, tc_G5, tc_us, tc_un, s_one, s_holds, s_J13_bitCount, bz_bI, hS.f, hTr.is, s_X3_count hTr hL']
    rw [if_pos (Int32.le_refl _)]
theorem rep_loop (hS : tc_Fnd S b) (hw : D.wf) (hT : Tb c b D T r) (hp : p < r) (hr : r ≤ 20) (hTn : ∀ i j, T p i j = true → j < D.n) (i : Nat) (y : Int32) (z : Int64) :
    tq_loop (f_X2_reachByPath_b54 b z (nI (60 * p)) y (tc_mk S c)) tq_N (mkS (T p i), mkS (D.rp (T p) i 1), 0) = some (mkS (D.rep (T p) i)) := by
  have hn := D.n_le hw
  obtain ⟨k, h1, h2, h3⟩ := D.still_first (T p) i
  have hk60 : k ≤ 60 := by omega
  have hst : ∀ l, l = k ∨ ¬ D.still (T p) i l ∨ True := fun l => .inr (.inr trivial)
  refine tc_iter (B := f_X2_reachByPath_b54 b z (nI (60 * p)) y (tc_mk S c)) k (fun l => (mkS (D.rp (T p) i l), mkS (D.rp (T p) i (l + 1)), nI l)) (fun l hl => ?_) ?_ (by unfold tq_N; omega)
  · dsimp only [f_X2_reachByPath_b54]
    rw [if_neg (show ¬ nI l ≥ 60 from nI_ge (show l < 60 by omega) (by decide)), if_neg (fun w => h3 l hl ((D.rp_same hw hTn).mp ((lg_cmp_0 _ _).mp w)))]
    simp (maxSteps := 3000000) (disch := omega) only [Option.bind_some, tc_bs, tq_let, tc_I1, tc_I2, tc_J1, tc_J2, tc_J3, tc_F1, tc_F2, tc_F3, tc_F4, tc_G1, tc_G2, tc_G3, tc_G4, tc_G5, tc_us, tc_un, s_one, s_holds, s_J13_bitCount, bz_bI, hS.f, tb_union hS hw hT hp hr (X := D.rp (T p) i (l + 1)) (fun m hm => Doc.rp_lt hTn _ m hm), mkS_or, nI_1]
    rfl
  · dsimp only [f_X2_reachByPath_b54]
    have e : mkS (D.rp (T p) i (k + 1)) = mkS (D.rep (T p) i) := by
      apply mkS_cong
      intro j hj
      by_cases hj2 : j < D.n
      · rw [h2 j hj2]; exact D.still_rep hw h2 hk60 hj2
      · have f : ∀ l, D.rp (T p) i l j = false := fun l => by
          cases a : D.rp (T p) i l j with
          | false => rfl
          | true => exact absurd (Doc.rp_lt hTn l j a) hj2
        rw [f]; exact (f 60).symm
    rw [if_pos ((lg_cmp_0 _ _).mpr ((D.rp_same hw hTn).mpr h2)), e]
    split <;> rfl
theorem s_reachByPath (hS : tc_Fnd S b) (hb : 117 ≤ b) (hTr : tc_Tree S 1) (hw : D.wf) (hL : Lay c 1 D) (hQ : c.2.2.2.1 b 6 = mkS Q) (hT : Tb c b D T r) (hp : p < r) (hr : r ≤ 20) (hTn : ∀ i j, T p i j = true → j < D.n) (X : Nat → Bool) :
    ∃ c', f_X2_reachByPath b (nI p) (mkS X) (tc_mk S c) = some (tc_mk S c') ∧ Lp c' b D (fun i j => (D.rep (T p) i j && X j) && Q j) ∧ Kp (b + 4) (b + 5) c c' := by
  have hn := D.n_le hw
  have e60 : nI p * 60 = nI (60 * p) := by rw [show (60 : Int32) = nI 60 from rfl, nI_mul, Nat.mul_comm]
  have W := tc_row (S := S) (c := c) (a := b + 4) (o := 0) (n := D.n) (B := f_X2_reachByPath_b9 b (mkS X) (nI (60 * p))) (fun i => mkS (fun j => (D.rep (T p) i j && X j) && Q j)) (by omega) (fun i g hi _ => ?_) (fun g => ?_)
  · obtain ⟨c1, w1, w2, -, w4⟩ := W
    refine ⟨c1, ?_, fun i hi => by have := w2 i hi; rwa [Nat.zero_add] at this, w4⟩
    unfold f_X2_reachByPath
    rw [e60]
    dsimp only [tq_let]
    rw [w1]; rfl
  · have kk := Kp.J (c := c) (a := b + 4) (lo := b + 4) (hi := b + 5) g (by omega) (by omega)
    have hL' := hL.kp kk (by omega)
    have hT' := hT.kp kk (by omega)
    have hTi := hT p i hp hi
    dsimp only [f_X2_reachByPath_b9]
    simp (maxSteps := 3000000) (disch := omega) only [Option.bind_some, tc_bs, tq_let, tc_I1, tc_I2, tc_J1, tc_J2, tc_J3, tc_F1, tc_F2, tc_F3, tc_F4, tc_G1, tc_G2, tc_G3, tc_G4, tc_G5, tc_us, tc_un, s_one, s_holds, s_J13_bitCount, bz_bI, hS.f, hTr.is, s_X3_count hTr hL', nI_add, sg_in _ (show 60 * p + i < 1200 by omega) (show 1200 < 2 ^ 31 by decide), hTi, tb_union hS hw hT' hp hr (X := T p i) (fun m hm => hTn i m hm), mkS_or]
    rw [if_neg (show ¬ nI i ≥ nI D.n from nI_ge hi (by omega))]
    have e1 : mkS (fun j => T p i j || anyB (fun m => T p i m && T p m j) D.n) = mkS (D.rp (T p) i 1) := rfl
    rw [e1, rep_loop hS hw hT' hp hr hTn i (nI i) (mkS X)]
    simp (maxSteps := 3000000) (disch := omega) only [Option.bind_some, tc_bs, tq_let, tc_I1, tc_I2, tc_J1, tc_J2, tc_J3, tc_F1, tc_F2, tc_F3, tc_F4, tc_G1, tc_G2, tc_G3, tc_G4, tc_G5, tc_us, tc_un, s_one, s_holds, s_J13_bitCount, bz_bI, hS.f, hQ, mkS_and, nI_1]
    rw [tc_J_J, Nat.zero_add, ss_in _ _ (show i < 60 by omega) (by decide)]
  · have hL' := hL.kp (Kp.J (c := c) (a := b + 4) (lo := b + 4) (hi := b + 5) g (by omega) (by omega)) (by omega)
    dsimp only [f_X2_reachByPath_b9]
    simp (maxSteps := 3000000) (disch := omega) only [Option.bind_some, tc_bs, tq_let, tc_I1, tc_I2, tc_J1, tc_J2, tc_J3, tc_F1, tc_F2, tc_F3, tc_F4, tc_G1, tc_G2, tc_G3, tc_G4, tc_G5, tc_us, tc_un, s_one, s_holds, s_J13_bitCount, bz_bI, hS.f, hTr.is, s_X3_count hTr hL']
    rw [if_pos (Int32.le_refl _)]
end FS
