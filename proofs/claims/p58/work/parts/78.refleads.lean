/-! ===== the reference finds: all paths ===== -/
/-- finding changes just what it works with -/
def Rf (c c' : tc_C) : Prop :=
  (∀ a, a ≠ 182 → c'.1 a = c.1 a) ∧ (∀ a, a < 179 ∨ 180 < a → c'.2.1 a = c.2.1 a) ∧ c'.2.2.1 = c.2.2.1 ∧ (∀ a, a ≠ 155 → c'.2.2.2.1 a = c.2.2.2.1 a) ∧ c'.2.2.2.2 = c.2.2.2.2
section RA
variable {S : tq_H} {c c' c'' : tc_C} {p k d m r z : Nat} {D : Doc} {P : Pat} {Q : Nat → Bool} {T : Nat → Nat → Nat → Bool}
theorem Rf.refl (c : tc_C) : Rf c c := ⟨fun _ _ => rfl, fun _ _ => rfl, rfl, fun _ _ => rfl, rfl⟩
theorem Rf.trans (h : Rf c c') (g : Rf c' c'') : Rf c c'' := ⟨fun a z => (g.1 a z).trans (h.1 a z), fun a z => (g.2.1 a z).trans (h.2.1 a z), g.2.2.1.trans h.2.2.1, fun a z => (g.2.2.2.1 a z).trans (h.2.2.2.1 a z), g.2.2.2.2.trans h.2.2.2.2⟩
theorem RTree.rf (h : RTree c D m) (k : Rf c c') : RTree c' D m := by
  obtain ⟨k1, k2, k3, k4, -⟩ := k
  unfold RTree
  rw [k1 163 (by omega), k1 156 (by omega), k1 157 (by omega), k1 158 (by omega), k1 159 (by omega), k1 160 (by omega), k1 161 (by omega), k3]
  exact h
theorem ROrd.rf (h : ROrd c D) (k : Rf c c') : ROrd c' D := by
  obtain ⟨k1, k2, k3, k4, -⟩ := k
  unfold ROrd
  rw [k1 164 (by omega), k1 165 (by omega), k3]
  exact h
theorem PR.rf (h : PR c P) (k : Rf c c') : PR c' P := by
  obtain ⟨k1, k2, k3, k4, -⟩ := k
  unfold PR
  rw [k1 175 (by omega), k1 176 (by omega), k1 177 (by omega), k1 178 (by omega), k3]
  exact h
theorem Rf.I (f : Nat → Int32) : Rf c (tc_I c 182 f) := ⟨fun a h => by rw [tc_I1, tc_un _ _ h], fun _ _ => rfl, rfl, fun _ _ => rfl, rfl⟩
theorem Rf.J {a : Nat} (f : Nat → Int64) (h1 : 179 ≤ a) (h2 : a ≤ 180) : Rf c (tc_J c a f) := ⟨fun _ _ => rfl, fun x hx => by rw [tc_J2, tc_un _ _ (by omega)], rfl, fun _ _ => rfl, rfl⟩
theorem Rf.G (f : Int64) : Rf c (tc_G c 155 31 f) := ⟨fun _ _ => rfl, fun _ _ => rfl, rfl, fun x hx => by rw [tc_G4, tc_un _ _ hx], rfl⟩
/-- what the reference works over while it finds -/
def RW (c : tc_C) (D : Doc) (m : Nat) (P : Pat) (Q : Nat → Bool) : Prop := RTree c D m ∧ ROrd c D ∧ PR c P ∧ c.2.2.2.1 155 31 = mkS (D.nodesOf Q)
theorem RW.I (h : RW c D m P Q) (f : Nat → Int32) : RW (tc_I c 182 f) D m P Q := ⟨h.1.rf (Rf.I f), h.2.1.rf (Rf.I f), h.2.2.1.rf (Rf.I f), h.2.2.2⟩
theorem RW.J (h : RW c D m P Q) {a : Nat} (f : Nat → Int64) (h1 : 179 ≤ a) (h2 : a ≤ 180) : RW (tc_J c a f) D m P Q := ⟨h.1.rf (Rf.J f h1 h2), h.2.1.rf (Rf.J f h1 h2), h.2.2.1.rf (Rf.J f h1 h2), h.2.2.2⟩
/-- what the first t steps with their nodes lead to -/
def Led (f : Nat → Int64) (D : Doc) (P : Pat) (Q : Nat → Bool) (T : Nat → Nat → Nat → Bool) (p t : Nat) : Prop := ∀ s i, i < D.n → s * D.n + i < t → f (60 * s + D.ord i) = mkS (D.nodesOf (fun j => Q i && D.stp P Q T (5 * p + s) i j))
theorem leads_loop (hM : tc_Mod S z) (hw : D.wf) (hW : RW c D m P Q) (hP : P.wf) (hp : p < P.n) (hT : RT c D T p) (hTn : ∀ q i j, T q i j = true → j < D.n) :
    ∃ c', tq_loop (f_X11_findAll_b18 155 (mkS (D.nodesOf Q)) (nI p)) tq_N (0, tc_mk S c) = some (tc_mk S c') ∧ Rf c c' ∧ RW c' D m P Q ∧ RT c' D T p ∧ Led (c'.2.1 180) D P Q T p (P.sc p * D.n) := by
  have hn := D.n_le hw
  have h0 := D.n_pos hw
  have h20 := hP.1
  have h5 := hP.2.1 p hp
  have hsn : P.sc p * D.n ≤ 5 * 60 := Nat.mul_le_mul h5 hn
  have hsc : ∀ x, RW x D m P Q → tq_ai (tc_mk S x) 175 (nI p) = some (nI (P.sc p)) := fun x hx => by simp (maxSteps := 3000000) (disch := omega) only [Option.bind_some, tc_bs, tq_let, tc_I1, tc_I2, tc_J1, tc_J2, tc_J3, tc_F1, tc_F2, tc_F3, tc_F4, tc_G1, tc_G2, tc_G3, tc_G4, tc_G5, tc_us, tc_un, s_one, s_holds, s_J13_bitCount, bz_bI, hM.f, show p < 20 from by omega, hx.2.2.1.2.1 p hp]
  have hg25 : ∀ x, tq_gr (tc_mk S x) 155 11 25 = some 175 := fun x => by simp (maxSteps := 3000000) (disch := omega) only [Option.bind_some, tc_bs, tq_let, tc_I1, tc_I2, tc_J1, tc_J2, tc_J3, tc_F1, tc_F2, tc_F3, tc_F4, tc_G1, tc_G2, tc_G3, tc_G4, tc_G5, tc_us, tc_un, s_one, s_holds, s_J13_bitCount, bz_bI, hM.f]
  have hg12 : ∀ x, tq_gr (tc_mk S x) 155 11 12 = some 164 := fun x => by simp (maxSteps := 3000000) (disch := omega) only [Option.bind_some, tc_bs, tq_let, tc_I1, tc_I2, tc_J1, tc_J2, tc_J3, tc_F1, tc_F2, tc_F3, tc_F4, tc_G1, tc_G2, tc_G3, tc_G4, tc_G5, tc_us, tc_un, s_one, s_holds, s_J13_bitCount, bz_bI, hM.f]
  have hg30 : ∀ x, tq_gr (tc_mk S x) 155 11 30 = some 180 := fun x => by simp (maxSteps := 3000000) (disch := omega) only [Option.bind_some, tc_bs, tq_let, tc_I1, tc_I2, tc_J1, tc_J2, tc_J3, tc_F1, tc_F2, tc_F3, tc_F4, tc_G1, tc_G2, tc_G3, tc_G4, tc_G5, tc_us, tc_un, s_one, s_holds, s_J13_bitCount, bz_bI, hM.f]
  have his : ∀ x, tq_is (tc_mk S x) 155 11 = some () := fun x => by simp (maxSteps := 3000000) (disch := omega) only [Option.bind_some, tc_bs, tq_let, tc_I1, tc_I2, tc_J1, tc_J2, tc_J3, tc_F1, tc_F2, tc_F3, tc_F4, tc_G1, tc_G2, tc_G3, tc_G4, tc_G5, tc_us, tc_un, s_one, s_holds, s_J13_bitCount, bz_bI, hM.f]
  have hgn : ∀ x, RW x D m P Q → tq_gi (tc_mk S x) 155 11 11 = some (nI D.n) := fun x hx => by simp (maxSteps := 3000000) (disch := omega) only [Option.bind_some, tc_bs, tq_let, tc_I1, tc_I2, tc_J1, tc_J2, tc_J3, tc_F1, tc_F2, tc_F3, tc_F4, tc_G1, tc_G2, tc_G3, tc_G4, tc_G5, tc_us, tc_un, s_one, s_holds, s_J13_bitCount, bz_bI, hM.f, hx.2.1.1]
  have hnz : tq_nz (nI D.n) = some () := by unfold tq_nz; rw [if_neg (fun w => by have := (nI_eq (by omega) (show 0 < 2 ^ 31 by decide)).mp w; omega)]
  obtain ⟨c', v1, v2, v3, v4, v5⟩ := tc_run (B := f_X11_findAll_b18 155 (mkS (D.nodesOf Q)) (nI p)) (P.sc p * D.n) (fun t x => (nI t, tc_mk S x)) (fun t x => Rf c x ∧ RW x D m P Q ∧ RT x D T p ∧ Led (x.2.1 180) D P Q T p t) (fun x => tc_mk S x) (by omega) (fun t x ht hx => by
    obtain ⟨x1, x2, x3, x4⟩ := hx
    have hs : t / D.n < P.sc p := (Nat.div_lt_iff_lt_mul h0).mpr ht
    have hi : t % D.n < D.n := Nat.mod_lt _ h0
    have oi := D.ord_lt hw hi
    have hdm := Nat.div_add_mod t D.n
    have e1 : nI t / nI D.n = nI (t / D.n) := pk_div (by omega) h0 (by omega)
    have e2 : nI t - nI t / nI D.n * nI D.n = nI (t % D.n) := pk_rem (by omega) h0 (by omega)
    have e3 : (60 : Int32) * nI (t / D.n) + nI (D.ord (t % D.n)) = nI (60 * (t / D.n) + D.ord (t % D.n)) := by rw [show (60 : Int32) = nI 60 from rfl, nI_mul, nI_add]
    have e4 : (5 : Int32) * nI p + nI (t / D.n) = nI (5 * p + t / D.n) := by rw [show (5 : Int32) = nI 5 from rfl, nI_mul, nI_add]
    have hl : ¬ nI t ≥ nI (P.sc p * D.n) := nI_ge ht (by omega)
    have ho : tq_ai (tc_mk S x) 164 (nI (t % D.n)) = some (nI (D.ord (t % D.n))) := by simp (maxSteps := 3000000) (disch := omega) only [Option.bind_some, tc_bs, tq_let, tc_I1, tc_I2, tc_J1, tc_J2, tc_J3, tc_F1, tc_F2, tc_F3, tc_F4, tc_G1, tc_G2, tc_G3, tc_G4, tc_G5, tc_us, tc_un, s_one, s_holds, s_J13_bitCount, bz_bI, hM.f, show t % D.n < 60 from by omega, x2.2.1.2.1 _ hi]
    -- what the step leads to, and the world behind it
    obtain ⟨f, hst⟩ := s_X11_stepped hM hw x2.1 x2.2.1 x2.2.2.1 hP hp hs x3 hTn x2.2.2.2 hi
    have key : ∃ y, (y = x ∨ ∃ f, y = tc_I x 182 f) ∧ (if lg_cmp ((mkS (D.nodesOf Q) >>> ((nI (D.ord (t % D.n))).toInt64 &&& 63)) &&& 1) 1 = 0 then
        (tq_gi (tc_mk S x) 155 11 11).bind fun x11 => (tq_nz x11).bind fun _ => (tq_is (tc_mk S x) 155 11).bind fun _ => (f_X11_stepped 155 (((5 : Int32) * nI p) + (nI t / x11)) (nI (D.ord (t % D.n))) (tc_mk S x)).bind fun v12 => some (v12.1, v12.2)
      else some ((0 : Int64), tc_mk S x)) = some (mkS (D.nodesOf (fun j => Q (t % D.n) && D.stp P Q T (5 * p + t / D.n) (t % D.n) j)), tc_mk S y) := by
      rw [nodes_if hw Q _ _ hi]
      by_cases hq : Q (t % D.n) = true
      · refine ⟨tc_I x 182 f, .inr ⟨f, rfl⟩, ?_⟩
        rw [if_pos hq, hgn x x2, Option.bind_some, hnz, Option.bind_some, his, Option.bind_some, e1, e4, hst, Option.bind_some]
        simp only [hq, Bool.true_and]
      · refine ⟨x, .inl rfl, ?_⟩
        have hq2 : Q (t % D.n) = false := by simpa using hq
        rw [if_neg hq, nodes_0 D]
        simp only [hq2, Bool.false_and]
    obtain ⟨y, hy, hk⟩ := key
    have yI : Rf x y ∧ RW y D m P Q ∧ RT y D T p ∧ y.2.1 180 = x.2.1 180 := by
      rcases hy with rfl | ⟨f, rfl⟩
      · exact ⟨Rf.refl _, x2, x3, rfl⟩
      · exact ⟨Rf.I f, x2.I f, x3.kp (Kp.I (lo := 182) (hi := 183) f (by omega) (by omega)) (by omega), rfl⟩
    obtain ⟨y1, y2, y3, y4⟩ := yI
    refine ⟨tc_J y 180 (vp_updL (y.2.1 180) (60 * (t / D.n) + D.ord (t % D.n)) (mkS (D.nodesOf (fun j => Q (t % D.n) && D.stp P Q T (5 * p + t / D.n) (t % D.n) j)))), ?_, (x1.trans y1).trans (Rf.J _ (by omega) (by omega)), y2.J _ (by omega) (by omega), y3.kp (Kp.J (lo := 180) (hi := 181) _ (by omega) (by omega)) (by omega), ?_⟩
    · dsimp only [f_X11_findAll_b18]
      simp only [hgn x x2, hnz, his, Option.bind_some] at hk
      simp only [hg25, hsc x x2, hgn x x2, hg12, hg30, hnz, his, ho, Option.bind_some]
      rw [nI_mul, if_neg hl]
      simp only [e2, ho, Option.bind_some]
      rw [hk, Option.bind_some]
      dsimp only
      rw [e1, e3]
      simp (maxSteps := 3000000) (disch := omega) only [Option.bind_some, tc_bs, tq_let, tc_I1, tc_I2, tc_J1, tc_J2, tc_J3, tc_F1, tc_F2, tc_F3, tc_F4, tc_G1, tc_G2, tc_G3, tc_G4, tc_G5, tc_us, tc_un, s_one, s_holds, s_J13_bitCount, bz_bI, hM.f, show 60 * (t / D.n) + D.ord (t % D.n) < 300 from by omega, nI_1]
    · intro s i hi2 hlt
      rw [tc_J2, tc_us, y4]
      unfold vp_updL
      have oi2 := D.ord_lt hw hi2
      by_cases e : s = t / D.n ∧ i = t % D.n
      · obtain ⟨rfl, rfl⟩ := e
        rw [if_pos rfl]
      · have hne : ¬ (60 * s + D.ord i = 60 * (t / D.n) + D.ord (t % D.n)) := fun w => by
          have hs1 : s = t / D.n := by omega
          have : D.ord i = D.ord (t % D.n) := by omega
          exact e ⟨hs1, D.ord_inj hw hi2 hi this⟩
        rw [if_neg hne]
        refine x4 s i hi2 ?_
        rcases Nat.lt_or_ge (s * D.n + i) t with q | q
        · exact q
        · exfalso
          have e5 : s * D.n + i = t := by omega
          have e6 : t / D.n = s := by rw [← e5, Nat.mul_comm, Nat.mul_add_div h0, Nat.div_eq_of_lt hi2, Nat.add_zero]
          have e7 : t % D.n = i := by rw [← e5, Nat.mul_comm, Nat.mul_add_mod, Nat.mod_eq_of_lt hi2]
          exact e ⟨e6.symm, e7.symm⟩) (fun x hx => by
    dsimp only [f_X11_findAll_b18]
    rw [hg25, Option.bind_some, hsc x hx.2.1, Option.bind_some, hgn x hx.2.1, Option.bind_some, nI_mul, if_pos (Int32.le_refl _)]) (x := c) ⟨Rf.refl c, hW, hT, fun s i h1 h2 => by omega⟩
  exact ⟨c', v1, v2, v3, v4, v5⟩
end RA
