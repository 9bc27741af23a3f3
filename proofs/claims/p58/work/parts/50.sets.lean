/-! ===== sets of spots and of nodes ===== -/
theorem tc_scan {σ ε : Type} {B : σ × Int32 → Option ((σ × Int32) ⊕ ε)} (n : Nat) (st : Nat → σ) {e : ε} (hn : n < 100000) (hs : ∀ i, i < n → B (st i, nI i) = some (.inl (st (i + 1), nI (i + 1)))) (he : B (st n, nI n) = some (.inr e)) : tq_loop B tq_N (st 0, 0) = some e :=
  tc_iter n (fun i => (st i, nI i)) hs he (by unfold tq_N; omega)
def anyB (p : Nat → Bool) : Nat → Bool
  | 0 => false
  | n + 1 => anyB p n || p n
theorem anyB_iff {p : Nat → Bool} : ∀ {n : Nat}, anyB p n = true ↔ ∃ i, i < n ∧ p i = true
  | 0 => by simp [anyB]
  | n + 1 => by
    rw [anyB, Bool.or_eq_true, anyB_iff]
    constructor
    · rintro (⟨i, a, b⟩ | h)
      · exact ⟨i, by omega, b⟩
      · exact ⟨n, by omega, h⟩
    · rintro ⟨i, a, b⟩
      by_cases e : i = n
      · subst e; exact .inr b
      · exact .inl ⟨i, by omega, b⟩
theorem anyB_cong {p q : Nat → Bool} : ∀ {n : Nat}, (∀ k, k < n → p k = q k) → anyB p n = anyB q n
  | 0, _ => rfl
  | n + 1, h => by rw [anyB, anyB, anyB_cong (fun k hk => h k (by omega)), h n (by omega)]
section SETS
variable {S : tq_H} {c : tc_C} {b i : Nat} {D : Doc}
def Doc.spread (D : Doc) (P : Nat → Bool) (j : Nat) : Bool := P j || anyB (fun s => P s && decide (s < j ∧ j < D.en s)) D.n
theorem s_X3_spread (hT : tc_Tree S b) (hw : D.wf) (hL : Lay c b D) (P : Nat → Bool) : f_X3_spread (b + 1) (mkS P) (tc_mk S c) = some (mkS (D.spread P)) := by
  have hn := D.n_le hw
  unfold f_X3_spread
  have W := tc_scan (B := f_X3_spread_b5 (b + 1) (mkS P) (tc_mk S c)) D.n (fun i => mkS (fun j => P j || anyB (fun s => P s && decide (s < j ∧ j < D.en s)) i)) (e := mkS (D.spread P)) (by omega) (fun i hi => ?_) ?_
  · have e0 : mkS (fun j => P j || anyB (fun s => P s && decide (s < j ∧ j < D.en s)) 0) = mkS P := mkS_cong fun j _ => by simp [anyB]
    rw [e0] at W
    rw [W, Option.bind_some]
  · show Option.bind (tq_gi (tc_mk S c) (b + 1) 3 12) _ = _
    simp (maxSteps := 3000000) (disch := omega) only [Option.bind_some, tc_bs, tq_let, tc_I1, tc_I2, tc_J1, tc_J2, tc_J3, tc_F1, tc_F2, tc_F3, tc_F4, tc_G1, tc_G2, tc_G3, tc_G4, tc_G5, tc_us, tc_un, s_one, s_holds, s_J13_bitCount, bz_bI, hT.f, lay_n hL, hasI_mkS P (show i < 64 by omega), sg_in _ (show i < 60 by omega) (show 60 < 2 ^ 31 by decide), lay_below hL hi, nI_1, mkS_or]
    rw [if_neg (show ¬ nI i ≥ nI D.n from nI_ge hi (by omega))]
    cases hp : P i with
    | true =>
      rw [if_neg (by decide), Option.bind_some]
      congr 3
      apply mkS_cong
      intro j _
      rw [anyB, hp]; simp [Bool.or_assoc]
    | false =>
      rw [if_pos (by decide), Option.bind_some]
      congr 3
      apply mkS_cong
      intro j _
      rw [anyB, hp]; simp
  · show Option.bind (tq_gi (tc_mk S c) (b + 1) 3 12) _ = _
    simp (maxSteps := 3000000) (disch := omega) only [Option.bind_some, tc_bs, tq_let, tc_I1, tc_I2, tc_J1, tc_J2, tc_J3, tc_F1, tc_F2, tc_F3, tc_F4, tc_G1, tc_G2, tc_G3, tc_G4, tc_G5, tc_us, tc_un, s_one, s_holds, s_J13_bitCount, bz_bI, hT.f, lay_n hL]
    rw [if_pos (Int32.le_refl _)]
    rfl
def Doc.nodesOf (D : Doc) (P : Nat → Bool) (v : Nat) : Bool := anyB (fun s => P s && decide (v = D.ord s)) D.n
theorem s_X3_nodesOf (hT : tc_Tree S b) (hw : D.wf) (hL : Lay c b D) (P : Nat → Bool) : f_X3_nodesOf (b + 1) (mkS P) (tc_mk S c) = some (mkS (D.nodesOf P)) := by
  have hn := D.n_le hw
  unfold f_X3_nodesOf
  have W := tc_scan (B := f_X3_nodesOf_b5 (b + 1) (mkS P) (tc_mk S c)) D.n (fun i => mkS (fun v => anyB (fun s => P s && decide (v = D.ord s)) i)) (e := mkS (D.nodesOf P)) (by omega) (fun i hi => ?_) ?_
  · have e0 : mkS (fun v => anyB (fun s => P s && decide (v = D.ord s)) 0) = 0 := by rw [mkS_0]; exact mkS_cong fun j _ => by simp [anyB]
    rw [e0] at W
    rw [W, Option.bind_some]
  · have ho := D.ord_lt hw hi
    show Option.bind (tq_gi (tc_mk S c) (b + 1) 3 12) _ = _
    simp (maxSteps := 3000000) (disch := omega) only [Option.bind_some, tc_bs, tq_let, tc_I1, tc_I2, tc_J1, tc_J2, tc_J3, tc_F1, tc_F2, tc_F3, tc_F4, tc_G1, tc_G2, tc_G3, tc_G4, tc_G5, tc_us, tc_un, s_one, s_holds, s_J13_bitCount, bz_bI, hT.f, lay_n hL, hasI_mkS P (show i < 64 by omega), rg_in _ (show i < 60 by omega) (show 60 < 2 ^ 31 by decide), lay_ord hL hi, nI_1, oneI_in (show D.ord i < 2 ^ 31 by omega), mkS_b1, mkS_or]
    rw [if_neg (show ¬ nI i ≥ nI D.n from nI_ge hi (by omega))]
    cases hp : P i with
    | true =>
      rw [if_neg (by decide), Option.bind_some]
      congr 3
      apply mkS_cong
      intro j _
      rw [anyB, hp]; simp
    | false =>
      rw [if_pos (by decide), Option.bind_some]
      congr 3
      apply mkS_cong
      intro j _
      rw [anyB, hp]; simp
  · show Option.bind (tq_gi (tc_mk S c) (b + 1) 3 12) _ = _
    simp (maxSteps := 3000000) (disch := omega) only [Option.bind_some, tc_bs, tq_let, tc_I1, tc_I2, tc_J1, tc_J2, tc_J3, tc_F1, tc_F2, tc_F3, tc_F4, tc_G1, tc_G2, tc_G3, tc_G4, tc_G5, tc_us, tc_un, s_one, s_holds, s_J13_bitCount, bz_bI, hT.f, lay_n hL]
    rw [if_pos (Int32.le_refl _)]
    rfl
theorem s_X3_spotsOf (hT : tc_Tree S b) (hw : D.wf) (hL : Lay c b D) (P : Nat → Bool) : f_X3_spotsOf (b + 1) (mkS P) (tc_mk S c) = some (mkS (fun j => decide (j < D.n) && P (D.ord j))) := by
  have hn := D.n_le hw
  unfold f_X3_spotsOf
  have W := tc_scan (B := f_X3_spotsOf_b5 (b + 1) (mkS P) (tc_mk S c)) D.n (fun i => mkS (fun j => decide (j < i) && P (D.ord j))) (e := mkS (fun j => decide (j < D.n) && P (D.ord j))) (by omega) (fun i hi => ?_) ?_
  · have e0 : mkS (fun j => decide (j < 0) && P (D.ord j)) = 0 := by rw [mkS_0]; exact mkS_cong fun j _ => by simp
    rw [e0] at W
    rw [W, Option.bind_some]
  · have ho := D.ord_lt hw hi
    show Option.bind (tq_gi (tc_mk S c) (b + 1) 3 12) _ = _
    simp (maxSteps := 3000000) (disch := omega) only [Option.bind_some, tc_bs, tq_let, tc_I1, tc_I2, tc_J1, tc_J2, tc_J3, tc_F1, tc_F2, tc_F3, tc_F4, tc_G1, tc_G2, tc_G3, tc_G4, tc_G5, tc_us, tc_un, s_one, s_holds, s_J13_bitCount, bz_bI, hT.f, lay_n hL, rg_in _ (show i < 60 by omega) (show 60 < 2 ^ 31 by decide), lay_ord hL hi, hasI_mkS P (show D.ord i < 64 by omega), nI_1, oneI_in (show i < 2 ^ 31 by omega), mkS_b1, mkS_or]
    rw [if_neg (show ¬ nI i ≥ nI D.n from nI_ge hi (by omega))]
    cases hp : P (D.ord i) with
    | true =>
      rw [if_neg (by decide), Option.bind_some]
      congr 3
      apply mkS_cong
      intro j _
      by_cases e : j = i
      · subst e; simp [hp]
      · simp [e, show (j < i + 1) ↔ j < i by omega]
    | false =>
      rw [if_pos (by decide), Option.bind_some]
      congr 3
      apply mkS_cong
      intro j _
      by_cases e : j = i
      · subst e; simp [hp]
      · simp [show (j < i + 1) ↔ j < i by omega]
  · show Option.bind (tq_gi (tc_mk S c) (b + 1) 3 12) _ = _
    simp (maxSteps := 3000000) (disch := omega) only [Option.bind_some, tc_bs, tq_let, tc_I1, tc_I2, tc_J1, tc_J2, tc_J3, tc_F1, tc_F2, tc_F3, tc_F4, tc_G1, tc_G2, tc_G3, tc_G4, tc_G5, tc_us, tc_un, s_one, s_holds, s_J13_bitCount, bz_bI, hT.f, lay_n hL]
    rw [if_pos (Int32.le_refl _)]
/-- the value at a spot by the texts that are seen -/
def Doc.val (D : Doc) (Q : Nat → Bool) (i : Nat) : Int32 :=
  if D.kd i = 0 then
    let p := pk (fun j => (decide (i < j ∧ j < D.en i) && (decide (j < D.n) && decide (D.kd j = 1))) && Q j) 0
    if p = -1 then -1 else D.vl p.toNatClampNeg
  else D.vl i
theorem s_X8_valueAt (hT : tc_Tree S b) (hw : D.wf) (hL : Lay c b D) {m : Nat} (hN : Nod c b D m) (Q : Nat → Bool) (hi : i < D.n) : f_X8_valueAt b (nI i) (mkS Q) (tc_mk S c) = some (D.val Q i) := by
  have hn := D.n_le hw
  obtain ⟨-, -, -, -, -, n6, -, -, -, -⟩ := hN
  have hti : ∀ j, D.tst 9 j = decide (D.kd j = 1) := fun j => by simp [Doc.tst]
  have h9 : f_X3_passing (b + 1) 9 (tc_mk S c) = some (mkS (fun j => decide (j < D.n) && decide (D.kd j = 1))) := by
    rw [show (9 : Int32) = nI 9 from rfl, s_X3_passing hT hL (by decide)]
    simp only [hti]
  simp (maxSteps := 3000000) (disch := omega) only [Option.bind_some, tc_bs, tq_let, tc_I1, tc_I2, tc_J1, tc_J2, tc_J3, tc_F1, tc_F2, tc_F3, tc_F4, tc_G1, tc_G2, tc_G3, tc_G4, tc_G5, tc_us, tc_un, s_one, s_holds, s_J13_bitCount, bz_bI, f_X8_valueAt, hT.f, s_X3_elements hT hL, hasI_mkS _ (show i < 64 by omega), s_X3_nodeAt hT hw hL hi, s_X3_below hT hw hL hi, h9, mkS_and]
  unfold Doc.val
  by_cases hk : D.kd i = 0
  · have hb : ¬ bI (decide (i < D.n ∧ D.kd i = 0)) = 0 := by simp [hi, hk, bI]
    rw [if_neg hb, if_pos hk]
    rw [s_X3_nodeOfSet hT hw hL (fun j hj => by simp at hj; exact hj.1.2.1), Option.bind_some]
    simp (maxSteps := 3000000) (disch := omega) only [Option.bind_some, tc_bs, tq_let, tc_I1, tc_I2, tc_J1, tc_J2, tc_J3, tc_F1, tc_F2, tc_F3, tc_F4, tc_G1, tc_G2, tc_G3, tc_G4, tc_G5, tc_us, tc_un, s_one, s_holds, s_J13_bitCount, bz_bI, hT.f]
    rcases pk_cases (fun j => (decide (i < j ∧ j < D.en i) && (decide (j < D.n) && decide (D.kd j = 1))) && Q j) 0 with ⟨m, k, h1, h2, h3, h4, h5⟩ | ⟨h1, h2⟩
    · have hm : m < D.n := by simp at h2; exact h2.1.2.1
      rw [h5, D.nd_in hw hm, rg_ord hw hm, n6 m hm]
      simp only [nI_clamp (show m < 2 ^ 31 by omega), nI_nm1 (show m < 2 ^ 31 by omega), if_false]
    · rw [h2, D.nd_n, rg_n]
      simp only [if_true]
  · have hb : bI (decide (i < D.n ∧ D.kd i = 0)) = 0 := by simp [hk, bI]
    rw [if_pos hb, if_neg hk, rg_ord hw hi, n6 i hi]
end SETS
