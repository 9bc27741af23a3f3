/-! ===== the reference finds: from each and so on; conditions ===== -/
/-- what the reference holds of the paths below r -/
def RT (c : tc_C) (D : Doc) (T : Nat → Nat → Nat → Bool) (r : Nat) : Prop := ∀ p i, p < r → i < D.n → c.2.1 179 (60 * p + D.ord i) = mkS (D.nodesOf (T p i))
section RF
variable {S : tq_H} {c c' : tc_C} {p k d m r z : Nat} {D : Doc} {P : Pat} {Q : Nat → Bool} {T : Nat → Nat → Nat → Bool}
theorem nodes_eq (hw : D.wf) {A B : Nat → Bool} : (mkS (D.nodesOf A) = mkS (D.nodesOf B)) ↔ ∀ j, j < D.n → A j = B j := by
  constructor
  · intro h j hj
    have ho := D.ord_lt hw hj
    have := mkS_eq.mp h (D.ord j) (by omega)
    rwa [D.nodesOf_at hw _ hj, D.nodesOf_at hw _ hj] at this
  · intro h
    rw [D.nodesOf_cong h]
theorem nodes_bit (hw : D.wf) (A : Nat → Bool) {k : Nat} (hk : k < D.n) : (lg_cmp ((mkS (D.nodesOf A) >>> ((nI (D.ord k)).toInt64 &&& 63)) &&& 1) 1 = 0) ↔ A k = true := by
  have := D.ord_lt hw hk
  rw [rbit_mkS _ (by omega), D.nodesOf_at hw _ hk]
theorem nodes_if (hw : D.wf) (A : Nat → Bool) {α : Type} (x y : α) {k : Nat} (hk : k < D.n) : (if lg_cmp ((mkS (D.nodesOf A) >>> ((nI (D.ord k)).toInt64 &&& 63)) &&& 1) 1 = 0 then x else y) = if A k = true then x else y := by
  by_cases e : A k = true
  · rw [if_pos e, if_pos ((nodes_bit hw A hk).mpr e)]
  · rw [if_neg e, if_neg (fun w => e ((nodes_bit hw A hk).mp w))]
/-- gathering what the members lead to -/
theorem gather_step (hw : D.wf) {A U : Nat → Bool} {F : Nat → Nat → Bool} {k : Nat} (hk : k < D.n) : (mkS (D.nodesOf (fun j => U j || anyB (fun s => A s && F s j) k)) ||| (if A k = true then mkS (D.nodesOf (F k)) else 0)) = mkS (D.nodesOf (fun j => U j || anyB (fun s => A s && F s j) (k + 1))) := by
  by_cases e : A k = true
  · rw [if_pos e, mkS_nodes_or]
    refine congrArg mkS (D.nodesOf_cong fun j _ => ?_)
    rw [anyB, e]; simp [Bool.or_assoc]
  · have e2 : A k = false := by simpa using e
    rw [if_neg e, nodes_0 D, mkS_nodes_or]
    refine congrArg mkS (D.nodesOf_cong fun j _ => ?_)
    rw [anyB, e2]; simp
theorem s_X11_repeated (hM : tc_Mod S z) (hw : D.wf) (hO : ROrd c D) (hT : RT c D T r) (hp : p < r) (hr : r ≤ 20) (hTn : ∀ i j, T p i j = true → j < D.n) {i : Nat} (hi : i < D.n) :
    f_X11_repeated 155 (nI p) (nI (D.ord i)) (tc_mk S c) = some (mkS (D.nodesOf (D.rep (T p) i))) := by
  have hn := D.n_le hw
  have oi := D.ord_lt hw hi
  obtain ⟨o1, o2, -⟩ := hO
  have e60 : (60 : Int32) * nI p = nI (60 * p) := by rw [show (60 : Int32) = nI 60 from rfl, nI_mul]
  have g1 : ∀ l, l < D.n → tq_aj (tc_mk S c) 179 (nI (60 * p + D.ord l)) = some (mkS (D.nodesOf (T p l))) := fun l hl => by
    have := D.ord_lt hw hl
    simp (maxSteps := 3000000) (disch := omega) only [Option.bind_some, tc_bs, tq_let, tc_I1, tc_I2, tc_J1, tc_J2, tc_J3, tc_F1, tc_F2, tc_F3, tc_F4, tc_G1, tc_G2, tc_G3, tc_G4, tc_G5, tc_us, tc_un, s_one, s_holds, s_J13_bitCount, bz_bI, hM.f, show 60 * p + D.ord l < 1200 from by omega]
    rw [hT p l hp hl]
  obtain ⟨k, h1, h2, h3⟩ := D.still_first (T p) i
  have inner : ∀ R : Nat → Bool, tq_loop (f_X11_repeated_b26 155 (nI p) (mkS (D.nodesOf R)) (tc_mk S c)) tq_N (mkS (D.nodesOf R), 0) = some (mkS (D.nodesOf (fun j => R j || anyB (fun s => R s && T p s j) D.n))) := by
    intro R
    have W := tc_scan (B := f_X11_repeated_b26 155 (nI p) (mkS (D.nodesOf R)) (tc_mk S c)) D.n (fun l => mkS (D.nodesOf (fun j => R j || anyB (fun s => R s && T p s j) l))) (e := mkS (D.nodesOf (fun j => R j || anyB (fun s => R s && T p s j) D.n))) (by omega) (fun l hl => ?_) ?_
    · have e0 : (fun j => R j || anyB (fun s => R s && T p s j) 0) = R := by funext j; simp [anyB]
      rw [e0] at W
      exact W
    · have hl2 : ¬ nI l ≥ nI D.n := nI_ge hl (by omega)
      dsimp only [f_X11_repeated_b26]
      simp (maxSteps := 3000000) (disch := omega) only [Option.bind_some, tc_bs, tq_let, tc_I1, tc_I2, tc_J1, tc_J2, tc_J3, tc_F1, tc_F2, tc_F3, tc_F4, tc_G1, tc_G2, tc_G3, tc_G4, tc_G5, tc_us, tc_un, s_one, s_holds, s_J13_bitCount, bz_bI, ↓reduceIte, hM.f, o1, o2 l hl, hl2, e60, nI_add, g1 l hl, nI_1, nodes_if hw R _ _ hl]
      rw [← gather_step hw hl]
      by_cases e : R l = true
      · rw [if_pos e, if_pos e]; rfl
      · rw [if_neg e, if_neg e]; rfl
    · dsimp only [f_X11_repeated_b26]
      have e1 : tq_gi (tc_mk S c) 155 11 11 = some (nI D.n) := by simp (maxSteps := 3000000) (disch := omega) only [Option.bind_some, tc_bs, tq_let, tc_I1, tc_I2, tc_J1, tc_J2, tc_J3, tc_F1, tc_F2, tc_F3, tc_F4, tc_G1, tc_G2, tc_G3, tc_G4, tc_G5, tc_us, tc_un, s_one, s_holds, s_J13_bitCount, bz_bI, hM.f, o1]
      rw [e1, Option.bind_some, if_pos (Int32.le_refl _)]
  have outer := tc_iter (B := f_X11_repeated_b15 155 (nI p) (tc_mk S c)) (k + 1) (fun l => (mkS (D.nodesOf (D.rp (T p) i l)), if l ≤ k then 1 else 0)) (e := mkS (D.nodesOf (D.rp (T p) i (k + 1)))) (fun l hl => ?_) ?_ (by unfold tq_N; omega)
  · unfold f_X11_repeated
    simp (maxSteps := 3000000) (disch := omega) only [Option.bind_some, tc_bs, tq_let, tc_I1, tc_I2, tc_J1, tc_J2, tc_J3, tc_F1, tc_F2, tc_F3, tc_F4, tc_G1, tc_G2, tc_G3, tc_G4, tc_G5, tc_us, tc_un, s_one, s_holds, s_J13_bitCount, bz_bI, hM.f, e60, nI_add, g1 i hi]
    rw [if_pos (Nat.zero_le k)] at outer
    have e0 : D.rp (T p) i 0 = T p i := rfl
    rw [e0] at outer
    rw [hT p i hp hi, outer]
    refine congrArg some (congrArg mkS (D.nodesOf_cong fun j hj => ?_))
    rw [h2 j hj]; exact D.still_rep hw h2 (by omega) hj
  · dsimp only [f_X11_repeated_b15]
    rw [if_neg (show ¬ (if l ≤ k then (1 : Int32) else 0) = 0 by rw [if_pos (show l ≤ k by omega)]; decide), inner, Option.bind_some]
    have e1 : mkS (D.nodesOf (fun j => D.rp (T p) i l j || anyB (fun s => D.rp (T p) i l s && T p s j) D.n)) = mkS (D.nodesOf (D.rp (T p) i (l + 1))) := rfl
    rw [e1]
    have e2 : (lg_cmp (mkS (D.nodesOf (D.rp (T p) i (l + 1)))) (mkS (D.nodesOf (D.rp (T p) i l))) = 0) ↔ D.still (T p) i l := by
      rw [lg_cmp_0, nodes_eq hw]; rfl
    by_cases e : l = k
    · subst e
      rw [if_pos (e2.mpr h2), if_neg (show ¬ l + 1 ≤ l by omega)]; rfl
    · rw [if_neg (fun w => h3 l (by omega) (e2.mp w)), if_pos (show l + 1 ≤ k by omega)]; rfl
  · dsimp only [f_X11_repeated_b15]
    rw [if_pos (if_neg (show ¬ k + 1 ≤ k by omega))]
theorem s_X11_compares (k x y : Int32) (h : tq_H) : f_X11_compares k x y h = some (bI (agr x k y)) := by
  unfold f_X11_compares agr tq_let
  by_cases a : k = 0
  · rw [if_pos a, if_pos a]
    by_cases b : x = y <;> simp [b, bI, tq_bz]
  · rw [if_neg a, if_neg a]
    by_cases d : k = 1
    · rw [if_pos d, if_pos d]
      by_cases b : x < y
      · have : ¬ x ≥ y := Int32.not_le.mpr b
        simp [b, bI, tq_bz, this]
      · have : x ≥ y := Int32.not_lt.mp b
        simp [b, bI, tq_bz, this]
    · rw [if_neg d, if_neg d]
      by_cases b : y < x
      · have : ¬ x ≤ y := Int32.not_le.mpr b
        simp [b, bI, tq_bz, this]
      · have : x ≤ y := Int32.not_lt.mp b
        simp [b, bI, tq_bz, this]
theorem PR.ok (h : PR c P) (hp : p < P.n) (hk : k < P.sc p) (hd : d < P.cc (5 * p + k)) : c.1 178 (4 * (2 * (5 * p + k) + d)) = nI (P.cw (2 * (5 * p + k) + d)) := (h.2.2.2 p k d hp hk hd).1
/-- whether a condition holds for a node at a place among all -/
def Doc.hld (D : Doc) (P : Pat) (Q : Nat → Bool) (T : Nat → Nat → Nat → Bool) (x j pl al : Nat) : Bool :=
  if P.cw x = 0 then agr (nI pl) (nI (P.cm x)) (nI (P.cn x)) else
  if P.cw x = 1 then decide (pl = al) else
  (anyB (fun l => T (P.co x) j l && D.cq P Q x l) D.n == decide (P.cw x ≠ 3))
theorem s_X11_holds (hM : tc_Mod S z) (hw : D.wf) (hR : RTree c D m) (hO : ROrd c D) (hC : PR c P) (hP : P.wf) (hp : p < P.n) (hk : k < P.sc p) (hd : d < P.cc (5 * p + k)) (hT : RT c D T p) (hQ : c.2.2.2.1 155 31 = mkS (D.nodesOf Q)) {j pl al : Nat} (hj : j < D.n) (hpl : pl < 100) (hal : al < 100) :
    f_X11_holds 155 (nI (4 * (2 * (5 * p + k) + d))) (nI (D.ord j)) (nI pl) (nI al) (tc_mk S c) = some (bI (D.hld P Q T (2 * (5 * p + k) + d) j pl al)) := by
  have hn := D.n_le hw
  have h20 := hP.1
  have h5 := hP.2.1 p hp
  have hlt := hP.2.2 p k hp hk
  have hlt2 := hlt.2.2.2.2 d hd
  have hcc := hlt.2.2.2.1
  obtain ⟨q1, q2, q3⟩ := hC.2.2.2 p k d hp hk hd
  have hx : 2 * (5 * p + k) + d < 200 := by omega
  generalize 2 * (5 * p + k) + d = x at *
  obtain ⟨o1, o2, o3⟩ := hO
  have oj := D.ord_lt hw hj
  have e : ∀ u, u < 5 → ((nI (P.cw x) = nI u) ↔ P.cw x = u) := fun u hu => nI_eq (by omega) (by omega)
  have e0 : (nI (P.cw x) = 0) ↔ P.cw x = 0 := e 0 (by decide)
  have e1 : (nI (P.cw x) = 1) ↔ P.cw x = 1 := e 1 (by decide)
  have e2 : (nI (P.cw x) = 2) ↔ P.cw x = 2 := e 2 (by decide)
  have e4 : (nI (P.cw x) = 4) ↔ P.cw x = 4 := e 4 (by decide)
  have a1 : nI (4 * x) + 1 = nI (4 * x + 1) := nI_1 _
  have a2 : nI (4 * x) + 2 = nI (4 * x + 2) := nI_add _ 2
  have a3 : nI (4 * x) + 3 = nI (4 * x + 3) := nI_add _ 3
  unfold f_X11_holds Doc.hld
  by_cases c0 : P.cw x = 0
  · obtain ⟨m1, m2⟩ := q3 (.inl c0)
    rw [if_pos c0]
    simp (maxSteps := 3000000) (disch := omega) only [Option.bind_some, tc_bs, tq_let, tc_I1, tc_I2, tc_J1, tc_J2, tc_J3, tc_F1, tc_F2, tc_F3, tc_F4, tc_G1, tc_G2, tc_G3, tc_G4, tc_G5, tc_us, tc_un, s_one, s_holds, s_J13_bitCount, bz_bI, ↓reduceIte, hM.f, q1, e0.mpr c0, a2, a3, m1, m2, s_X11_compares]
  · by_cases c1 : P.cw x = 1
    · have n0 : ¬ nI (P.cw x) = 0 := fun w => c0 (e0.mp w)
      have epl : (nI pl = nI al) ↔ pl = al := nI_eq (by omega) (by omega)
      rw [if_neg c0, if_pos c1]
      simp (maxSteps := 3000000) (disch := omega) only [Option.bind_some, tc_bs, tq_let, tc_I1, tc_I2, tc_J1, tc_J2, tc_J3, tc_F1, tc_F2, tc_F3, tc_F4, tc_G1, tc_G2, tc_G3, tc_G4, tc_G5, tc_us, tc_un, s_one, s_holds, s_J13_bitCount, bz_bI, ↓reduceIte, hM.f, q1, n0, e1.mpr c1, epl, show ¬ (1 : Int32) = 0 from by decide]
      by_cases g : pl = al <;> simp [g, bI, tq_bz]
    · have hw2 : 2 ≤ P.cw x := by omega
      have n0 : ¬ nI (P.cw x) = 0 := fun w => c0 (e0.mp w)
      have n1 : ¬ nI (P.cw x) = 1 := fun w => c1 (e1.mp w)
      have hco := hlt2.2.1 hw2
      have e60 : (60 : Int32) * nI (P.co x) = nI (60 * P.co x) := by rw [show (60 : Int32) = nI 60 from rfl, nI_mul]
      have hTj := hT (P.co x) j hco hj
      by_cases c4 : P.cw x = 4
      · obtain ⟨m1, m2⟩ := q3 (.inr c4)
        have n3 : P.cw x ≠ 3 := by omega
        have W := tc_scan (B := f_X11_holds_b116 155 (nI (4 * x)) (mkS (D.nodesOf (T (P.co x) j))) (tc_mk S c)) D.n (fun i => bI (anyB (fun l => T (P.co x) j l && D.cq P Q x l) i)) (e := bI (anyB (fun l => T (P.co x) j l && D.cq P Q x l) D.n)) (by omega) (fun i hi => ?_) ?_
        · rw [if_neg c0, if_neg c1]
          simp (maxSteps := 3000000) (disch := omega) only [Option.bind_some, tc_bs, tq_let, tc_I1, tc_I2, tc_J1, tc_J2, tc_J3, tc_F1, tc_F2, tc_F3, tc_F4, tc_G1, tc_G2, tc_G3, tc_G4, tc_G5, tc_us, tc_un, s_one, s_holds, s_J13_bitCount, bz_bI, ↓reduceIte, hM.f, q1, n0, n1, e4.mpr c4, show ¬ (4 : Int32) = 0 from by decide, show ¬ (4 : Int32) = 1 from by decide, a1, q2 hw2, e60, nI_add, show 60 * P.co x + D.ord j < 1200 from by omega, hTj]
          have W' : tq_loop (f_X11_holds_b116 155 (nI (4 * x)) (mkS (D.nodesOf (T (P.co x) j))) (tc_mk S c)) tq_N (0, 0) = _ := W
          rw [W', Option.bind_some, bz_bI]
          simp [n3]
        · have hl2 : ¬ nI i ≥ nI D.n := nI_ge hi (by omega)
          dsimp only [f_X11_holds_b116]
          simp (maxSteps := 3000000) (disch := omega) only [Option.bind_some, tc_bs, tq_let, tc_I1, tc_I2, tc_J1, tc_J2, tc_J3, tc_F1, tc_F2, tc_F3, tc_F4, tc_G1, tc_G2, tc_G3, tc_G4, tc_G5, tc_us, tc_un, s_one, s_holds, s_J13_bitCount, bz_bI, ↓reduceIte, hM.f, o1, o2 i hi, hl2, nodes_if hw (T (P.co x) j) _ _ hi, hQ, s_X11_valueOf hM hw hR ⟨o1, o2, o3⟩ hi Q, nI_1, a2, a3, m1, m2, s_X11_compares]
          rw [anyB]
          have ecq : D.cq P Q x i = (decide (D.val Q i ≠ -1) && agr (D.val Q i) (nI (P.cm x)) (nI (P.cn x))) := by unfold Doc.cq; rw [if_pos c4]
          by_cases t : T (P.co x) j i = true
          · rw [if_pos t, Option.bind_some, t, ecq]
            cases g : anyB (fun l => T (P.co x) j l && D.cq P Q x l) i with
            | true => rfl
            | false =>
              rw [if_pos (show bI false = 0 by decide)]
              by_cases v : D.val Q i = -1
              · rw [if_pos v]; simp [v, bI]
              · rw [if_neg v]
                cases ag : agr (D.val Q i) (nI (P.cm x)) (nI (P.cn x)) with
                | true => rw [if_neg (by decide)]; simp [v, bI]
                | false => rw [if_pos (by decide)]; simp [bI]
          · rw [if_neg t, Option.bind_some, if_pos rfl]
            have t2 : T (P.co x) j i = false := by simpa using t
            rw [t2]
            cases anyB (fun l => T (P.co x) j l && D.cq P Q x l) i <;> rfl
        · dsimp only [f_X11_holds_b116]
          have e1 : tq_gi (tc_mk S c) 155 11 11 = some (nI D.n) := by simp (maxSteps := 3000000) (disch := omega) only [Option.bind_some, tc_bs, tq_let, tc_I1, tc_I2, tc_J1, tc_J2, tc_J3, tc_F1, tc_F2, tc_F3, tc_F4, tc_G1, tc_G2, tc_G3, tc_G4, tc_G5, tc_us, tc_un, s_one, s_holds, s_J13_bitCount, bz_bI, hM.f, o1]
          rw [e1, Option.bind_some, if_pos (Int32.le_refl _)]
      · have n4 : ¬ nI (P.cw x) = 4 := fun w => c4 (e4.mp w)
        rw [if_neg c0, if_neg c1]
        simp (maxSteps := 3000000) (disch := omega) only [Option.bind_some, tc_bs, tq_let, tc_I1, tc_I2, tc_J1, tc_J2, tc_J3, tc_F1, tc_F2, tc_F3, tc_F4, tc_G1, tc_G2, tc_G3, tc_G4, tc_G5, tc_us, tc_un, s_one, s_holds, s_J13_bitCount, bz_bI, ↓reduceIte, hM.f, q1, n0, n1, n4, a1, q2 hw2, e60, nI_add, show 60 * P.co x + D.ord j < 1200 from by omega, hTj]
        have hcq : ∀ l, D.cq P Q x l = true := fun l => by unfold Doc.cq; rw [if_neg c4]
        have ez : (lg_cmp (mkS (D.nodesOf (T (P.co x) j))) 0 = 0) ↔ anyB (fun l => T (P.co x) j l && D.cq P Q x l) D.n = false := by
          rw [lg_cmp_0, nodes_0 D, nodes_eq hw]
          constructor
          · intro h
            cases g : anyB (fun l => T (P.co x) j l && D.cq P Q x l) D.n with
            | false => rfl
            | true =>
              obtain ⟨l, hl, hh⟩ := anyB_iff.mp g
              rw [h l hl] at hh; cases hh
          · intro h l hl
            cases g : T (P.co x) j l with
            | false => rfl
            | true =>
              have : anyB (fun l => T (P.co x) j l && D.cq P Q x l) D.n = true := anyB_iff.mpr ⟨l, hl, by rw [g, hcq]; rfl⟩
              rw [h] at this; cases this
        have h23 : (nI (P.cw x) = 2) ↔ P.cw x ≠ 3 := by rw [e2]; omega
        have i1 : (if lg_cmp (mkS (D.nodesOf (T (P.co x) j))) 0 = 0 then (0 : Int32) else 1) = bI (anyB (fun l => T (P.co x) j l && D.cq P Q x l) D.n) := by
          by_cases g : lg_cmp (mkS (D.nodesOf (T (P.co x) j))) 0 = 0
          · rw [if_pos g, ez.mp g]; rfl
          · rw [if_neg g]
            cases q : anyB (fun l => T (P.co x) j l && D.cq P Q x l) D.n with
            | false => exact absurd (ez.mpr q) g
            | true => rfl
        have i2 : (if nI (P.cw x) = 2 then (1 : Int32) else 0) = bI (decide (P.cw x ≠ 3)) := by
          by_cases g : P.cw x ≠ 3
          · rw [if_pos (h23.mpr g)]; simp [g, bI]
          · rw [if_neg (fun w => g (h23.mp w))]; simp [g, bI]
        rw [i1, i2]
        generalize anyB (fun l => T (P.co x) j l && D.cq P Q x l) D.n = u
        generalize decide (P.cw x ≠ 3) = v
        cases u <;> cases v <;> rfl
end RF
