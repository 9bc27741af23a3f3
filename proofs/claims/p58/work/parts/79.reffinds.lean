/-! ===== the reference finds: all paths, done ===== -/
section RB
variable {S : tq_H} {c c' c'' : tc_C} {p k d m r z : Nat} {D : Doc} {P : Pat} {Q : Nat → Bool} {T : Nat → Nat → Nat → Bool}
theorem found_loop (hM : tc_Mod S z) (hw : D.wf) (hW : RW c D m P Q) (hP : P.wf) (hQn : ∀ j, Q j = true → j < D.n) (hp : p < P.n) (hLd : Led (c.2.1 180) D P Q T p (P.sc p * D.n)) {i : Nat} (hi : i < D.n) (w1 w2 : Int32) (w0 : Int64) :
    tq_loop (f_X11_findAll_b149 155 w0 (nI p) w1 w2 (tc_mk S c)) tq_N (mkS (D.nodesOf (D.fr P Q T p i 0)), 0) = some (mkS (D.nodesOf (D.fr P Q T p i (P.sc p)))) := by
  have hn := D.n_le hw
  have h0 := D.n_pos hw
  have h20 := hP.1
  have h5 := hP.2.1 p hp
  have hsc : tq_ai (tc_mk S c) 175 (nI p) = some (nI (P.sc p)) := by simp (maxSteps := 3000000) (disch := omega) only [Option.bind_some, tc_bs, tq_let, tc_I1, tc_I2, tc_J1, tc_J2, tc_J3, tc_F1, tc_F2, tc_F3, tc_F4, tc_G1, tc_G2, tc_G3, tc_G4, tc_G5, tc_us, tc_un, s_one, s_holds, s_J13_bitCount, bz_bI, hM.f, show p < 20 from by omega, hW.2.2.1.2.1 p hp]
  have hg25 : tq_gr (tc_mk S c) 155 11 25 = some 175 := by simp (maxSteps := 3000000) (disch := omega) only [Option.bind_some, tc_bs, tq_let, tc_I1, tc_I2, tc_J1, tc_J2, tc_J3, tc_F1, tc_F2, tc_F3, tc_F4, tc_G1, tc_G2, tc_G3, tc_G4, tc_G5, tc_us, tc_un, s_one, s_holds, s_J13_bitCount, bz_bI, hM.f]
  have hgn : tq_gi (tc_mk S c) 155 11 11 = some (nI D.n) := by simp (maxSteps := 3000000) (disch := omega) only [Option.bind_some, tc_bs, tq_let, tc_I1, tc_I2, tc_J1, tc_J2, tc_J3, tc_F1, tc_F2, tc_F3, tc_F4, tc_G1, tc_G2, tc_G3, tc_G4, tc_G5, tc_us, tc_un, s_one, s_holds, s_J13_bitCount, bz_bI, hM.f, hW.2.1.1]
  have W := tc_scan (B := f_X11_findAll_b149 155 w0 (nI p) w1 w2 (tc_mk S c)) (P.sc p) (fun s => mkS (D.nodesOf (D.fr P Q T p i s))) (e := mkS (D.nodesOf (D.fr P Q T p i (P.sc p)))) (by omega) (fun s hs => ?_) ?_
  · exact W
  · have hl : ¬ nI s ≥ nI (P.sc p) := nI_ge hs (by omega)
    have V := tc_scan (B := f_X11_findAll_b166 155 w0 (nI p) w1 w2 (mkS (D.nodesOf (D.fr P Q T p i s))) (nI s) (tc_mk S c)) D.n (fun l => mkS (D.nodesOf (fun j => false || anyB (fun u => D.fr P Q T p i s u && (Q u && D.stp P Q T (5 * p + s) u j)) l))) (e := mkS (D.nodesOf (fun j => false || anyB (fun u => D.fr P Q T p i s u && (Q u && D.stp P Q T (5 * p + s) u j)) D.n))) (by omega) (fun l hl => ?_) ?_
    · have e0 : mkS (D.nodesOf (fun j => false || anyB (fun u => D.fr P Q T p i s u && (Q u && D.stp P Q T (5 * p + s) u j)) 0)) = 0 := by
        rw [nodes_0 D]; exact congrArg mkS (D.nodesOf_cong fun j _ => by simp [anyB])
      rw [e0] at V
      dsimp only [f_X11_findAll_b149]
      rw [hg25, Option.bind_some, hsc, Option.bind_some, if_neg hl, V, Option.bind_some]
      simp only [tq_let, nI_1]
      refine congrArg (fun y => (some (Sum.inl (y, nI (s + 1))) : Option ((Int64 × Int32) ⊕ Int64))) (congrArg mkS (D.nodesOf_cong fun j _ => ?_))
      show (false || _) = anyB _ _
      rw [Bool.false_or]
      refine anyB_cong fun u hu => ?_
      cases e : D.fr P Q T p i s u with
      | false => rfl
      | true => rw [(Doc.fr_in hQn e).2]; rfl
    · have ol := D.ord_lt hw hl
      have hl2 : ¬ nI l ≥ nI D.n := nI_ge hl (by omega)
      have hb : s * D.n + l < P.sc p * D.n := by
        have : (s + 1) * D.n ≤ P.sc p * D.n := Nat.mul_le_mul_right _ hs
        rw [Nat.add_mul] at this; omega
      have hld := hLd s l hl hb
      have e3 : (60 : Int32) * nI s + nI (D.ord l) = nI (60 * s + D.ord l) := by rw [show (60 : Int32) = nI 60 from rfl, nI_mul, nI_add]
      have ho : tq_ai (tc_mk S c) 164 (nI l) = some (nI (D.ord l)) := by simp (maxSteps := 3000000) (disch := omega) only [Option.bind_some, tc_bs, tq_let, tc_I1, tc_I2, tc_J1, tc_J2, tc_J3, tc_F1, tc_F2, tc_F3, tc_F4, tc_G1, tc_G2, tc_G3, tc_G4, tc_G5, tc_us, tc_un, s_one, s_holds, s_J13_bitCount, bz_bI, hM.f, show l < 60 from by omega, hW.2.1.2.1 _ hl]
      dsimp only [f_X11_findAll_b166]
      rw [hgn, Option.bind_some, if_neg hl2]
      have hg12 : tq_gr (tc_mk S c) 155 11 12 = some 164 := by simp (maxSteps := 3000000) (disch := omega) only [Option.bind_some, tc_bs, tq_let, tc_I1, tc_I2, tc_J1, tc_J2, tc_J3, tc_F1, tc_F2, tc_F3, tc_F4, tc_G1, tc_G2, tc_G3, tc_G4, tc_G5, tc_us, tc_un, s_one, s_holds, s_J13_bitCount, bz_bI, hM.f]
      have hg30 : tq_gr (tc_mk S c) 155 11 30 = some 180 := by simp (maxSteps := 3000000) (disch := omega) only [Option.bind_some, tc_bs, tq_let, tc_I1, tc_I2, tc_J1, tc_J2, tc_J3, tc_F1, tc_F2, tc_F3, tc_F4, tc_G1, tc_G2, tc_G3, tc_G4, tc_G5, tc_us, tc_un, s_one, s_holds, s_J13_bitCount, bz_bI, hM.f]
      have hj : tq_aj (tc_mk S c) 180 (nI (60 * s + D.ord l)) = some (mkS (D.nodesOf (fun j => Q l && D.stp P Q T (5 * p + s) l j))) := by simp (maxSteps := 3000000) (disch := omega) only [Option.bind_some, tc_bs, tq_let, tc_I1, tc_I2, tc_J1, tc_J2, tc_J3, tc_F1, tc_F2, tc_F3, tc_F4, tc_G1, tc_G2, tc_G3, tc_G4, tc_G5, tc_us, tc_un, s_one, s_holds, s_J13_bitCount, bz_bI, hM.f, show 60 * s + D.ord l < 300 from by omega, hld]
      simp only [hg12, ho, hg30, e3, hj, Option.bind_some]
      rw [nodes_if hw _ _ _ hl]
      have G := gather_step (U := fun _ => false) (A := D.fr P Q T p i s) (F := fun u j => Q u && D.stp P Q T (5 * p + s) u j) hw hl
      simp only [tq_let, nI_1]
      rw [← G]
      by_cases e : D.fr P Q T p i s l = true
      · rw [if_pos e, if_pos e]; rfl
      · rw [if_neg e, if_neg e]; rfl
    · dsimp only [f_X11_findAll_b166]
      rw [hgn, Option.bind_some, if_pos (Int32.le_refl _)]
  · dsimp only [f_X11_findAll_b149]
    rw [hg25, Option.bind_some, hsc, Option.bind_some, if_pos (Int32.le_refl _)]
theorem finds_loop (hM : tc_Mod S z) (hw : D.wf) (hW : RW c D m P Q) (hP : P.wf) (hQn : ∀ j, Q j = true → j < D.n) (hp : p < P.n) (hT : RT c D T p) (hLd : Led (c.2.1 180) D P Q T p (P.sc p * D.n)) :
    ∃ c', tq_loop (f_X11_findAll_b107 155 (mkS (D.nodesOf Q)) (nI p)) tq_N (0, tc_mk S c) = some (tc_mk S c') ∧ Rf c c' ∧ RW c' D m P Q ∧ RT c' D T p ∧ ∀ i, i < D.n → c'.2.1 179 (60 * p + D.ord i) = mkS (D.nodesOf (D.fr P Q T p i (P.sc p))) := by
  have hn := D.n_le hw
  have h0 := D.n_pos hw
  have h20 := hP.1
  obtain ⟨c', v1, v2, v3, v4, v5, v6⟩ := tc_run (B := f_X11_findAll_b107 155 (mkS (D.nodesOf Q)) (nI p)) D.n (fun t x => (nI t, tc_mk S x)) (fun t x => Rf c x ∧ RW x D m P Q ∧ x.2.1 180 = c.2.1 180 ∧ RT x D T p ∧ ∀ i, i < t → x.2.1 179 (60 * p + D.ord i) = mkS (D.nodesOf (D.fr P Q T p i (P.sc p)))) (fun x => tc_mk S x) (by omega) (fun t x ht hx => by
    obtain ⟨x1, x2, x3, x4, x5⟩ := hx
    have ot := D.ord_lt hw ht
    have hl : ¬ nI t ≥ nI D.n := nI_ge ht (by omega)
    have ho : tq_ai (tc_mk S x) 164 (nI t) = some (nI (D.ord t)) := by simp (maxSteps := 3000000) (disch := omega) only [Option.bind_some, tc_bs, tq_let, tc_I1, tc_I2, tc_J1, tc_J2, tc_J3, tc_F1, tc_F2, tc_F3, tc_F4, tc_G1, tc_G2, tc_G3, tc_G4, tc_G5, tc_us, tc_un, s_one, s_holds, s_J13_bitCount, bz_bI, hM.f, show t < 60 from by omega, x2.2.1.2.1 _ ht]
    have hgn : tq_gi (tc_mk S x) 155 11 11 = some (nI D.n) := by simp (maxSteps := 3000000) (disch := omega) only [Option.bind_some, tc_bs, tq_let, tc_I1, tc_I2, tc_J1, tc_J2, tc_J3, tc_F1, tc_F2, tc_F3, tc_F4, tc_G1, tc_G2, tc_G3, tc_G4, tc_G5, tc_us, tc_un, s_one, s_holds, s_J13_bitCount, bz_bI, hM.f, x2.2.1.1]
    have hg12 : tq_gr (tc_mk S x) 155 11 12 = some 164 := by simp (maxSteps := 3000000) (disch := omega) only [Option.bind_some, tc_bs, tq_let, tc_I1, tc_I2, tc_J1, tc_J2, tc_J3, tc_F1, tc_F2, tc_F3, tc_F4, tc_G1, tc_G2, tc_G3, tc_G4, tc_G5, tc_us, tc_un, s_one, s_holds, s_J13_bitCount, bz_bI, hM.f]
    have hg29 : tq_gr (tc_mk S x) 155 11 29 = some 179 := by simp (maxSteps := 3000000) (disch := omega) only [Option.bind_some, tc_bs, tq_let, tc_I1, tc_I2, tc_J1, tc_J2, tc_J3, tc_F1, tc_F2, tc_F3, tc_F4, tc_G1, tc_G2, tc_G3, tc_G4, tc_G5, tc_us, tc_un, s_one, s_holds, s_J13_bitCount, bz_bI, hM.f]
    have e3 : (60 : Int32) * nI p + nI (D.ord t) = nI (60 * p + D.ord t) := by rw [show (60 : Int32) = nI 60 from rfl, nI_mul, nI_add]
    have hsl : ∀ v, tq_sl (tc_mk S x) 179 (nI (60 * p + D.ord t)) v = some (tc_mk S (tc_J x 179 (vp_updL (x.2.1 179) (60 * p + D.ord t) v))) := fun v => by simp (maxSteps := 3000000) (disch := omega) only [Option.bind_some, tc_bs, tq_let, tc_I1, tc_I2, tc_J1, tc_J2, tc_J3, tc_F1, tc_F2, tc_F3, tc_F4, tc_G1, tc_G2, tc_G3, tc_G4, tc_G5, tc_us, tc_un, s_one, s_holds, s_J13_bitCount, bz_bI, hM.f, show 60 * p + D.ord t < 1200 from by omega]
    have hst : (if Q t = true then ((1 : Int64) <<< ((nI (D.ord t)).toInt64 &&& 63)) else 0) = mkS (D.nodesOf (D.fr P Q T p t 0)) := by
      rw [b1_sh (show D.ord t < 64 by omega), b1_nodes hw ht, nodes_0 D]
      by_cases q : Q t = true
      · rw [if_pos q]
        refine congrArg mkS (D.nodesOf_cong fun j _ => ?_)
        show decide (j = t) = (Q j && decide (j = t))
        by_cases e : j = t
        · subst e; simp [q]
        · simp [e]
      · rw [if_neg q]
        refine congrArg mkS (D.nodesOf_cong fun j _ => ?_)
        show false = (Q j && decide (j = t))
        by_cases e : j = t
        · subst e; simp [q]
        · simp [e]
    have hF := found_loop (S := S) hM hw x2 hP hQn hp (T := T) (by rw [x3]; exact hLd) ht (nI t) (nI (D.ord t)) (mkS (D.nodesOf Q))
    refine ⟨tc_J x 179 (vp_updL (x.2.1 179) (60 * p + D.ord t) (mkS (D.nodesOf (D.fr P Q T p t (P.sc p))))), ?_, x1.trans (Rf.J _ (by omega) (by omega)), x2.J _ (by omega) (by omega), ?_, ?_, ?_⟩
    · dsimp only [f_X11_findAll_b107]
      rw [hgn, Option.bind_some, if_neg hl]
      simp only [hg12, ho, Option.bind_some, tq_let]
      rw [nodes_if hw _ _ _ ht, hst, hF]
      simp only [hg29, e3, hsl, Option.bind_some, nI_1]
    · rw [tc_J2, tc_un _ _ (by omega)]; exact x3
    · intro q i hq hi
      have oi := D.ord_lt hw hi
      rw [tc_J2, tc_us]
      unfold vp_updL
      rw [if_neg (by omega)]
      exact x4 q i hq hi
    · intro i hi
      have oi := D.ord_lt hw (show i < D.n by omega)
      rw [tc_J2, tc_us]
      unfold vp_updL
      by_cases e : i = t
      · subst e; rw [if_pos rfl]
      · have : D.ord i ≠ D.ord t := fun w => e (D.ord_inj hw (by omega) ht w)
        rw [if_neg (by omega)]
        exact x5 i (by omega)) (fun x hx => by
    have hgn : tq_gi (tc_mk S x) 155 11 11 = some (nI D.n) := by simp (maxSteps := 3000000) (disch := omega) only [Option.bind_some, tc_bs, tq_let, tc_I1, tc_I2, tc_J1, tc_J2, tc_J3, tc_F1, tc_F2, tc_F3, tc_F4, tc_G1, tc_G2, tc_G3, tc_G4, tc_G5, tc_us, tc_un, s_one, s_holds, s_J13_bitCount, bz_bI, hM.f, hx.2.1.2.1.1]
    dsimp only [f_X11_findAll_b107]
    rw [hgn, Option.bind_some, if_pos (Int32.le_refl _)]) (x := c) ⟨Rf.refl c, hW, rfl, hT, fun i hi => by omega⟩
  exact ⟨c', v1, v2, v3, v5, v6⟩
/-- all that the paths find among Q -/
theorem s_X11_findAll (hM : tc_Mod S z) (hw : D.wf) (hR : RTree c D m) (hO : ROrd c D) (hC : PR c P) (hP : P.wf) (hQn : ∀ j, Q j = true → j < D.n) :
    ∃ c', f_X11_findAll 155 (mkS (D.nodesOf Q)) (tc_mk S c) = some (tc_mk S c') ∧ Rf c c' ∧ RW c' D m P Q ∧ RT c' D (D.fnd P Q) P.n := by
  have h20 := hP.1
  have hg24 : ∀ x, RW x D m P Q → tq_gi (tc_mk S x) 155 11 24 = some (nI P.n) := fun x hx => by simp (maxSteps := 3000000) (disch := omega) only [Option.bind_some, tc_bs, tq_let, tc_I1, tc_I2, tc_J1, tc_J2, tc_J3, tc_F1, tc_F2, tc_F3, tc_F4, tc_G1, tc_G2, tc_G3, tc_G4, tc_G5, tc_us, tc_un, s_one, s_holds, s_J13_bitCount, bz_bI, hM.f, hx.2.2.1.1]
  let c0 := tc_G c 155 31 (mkS (D.nodesOf Q))
  have hW0 : RW c0 D m P Q := ⟨hR.rf (Rf.G _), hO.rf (Rf.G _), hC.rf (Rf.G _), by show (tc_G c 155 31 (mkS (D.nodesOf Q))).2.2.2.1 155 31 = _; rw [tc_G4, tc_us, tc_us]⟩
  obtain ⟨c', v1, v2, v3, v4⟩ := tc_run (B := f_X11_findAll_b7 155 (mkS (D.nodesOf Q))) P.n (fun t x => (nI t, tc_mk S x)) (fun t x => Rf c0 x ∧ RW x D m P Q ∧ RT x D (D.fnd P Q) t) (fun x => tc_mk S x) (by omega) (fun t x ht hx => by
    obtain ⟨x1, x2, x3⟩ := hx
    have hTn : ∀ q i j, D.fnd P Q q i j = true → j < D.n := fun q i j h => (Doc.fnd_in hQn h).1
    obtain ⟨y, y1, y2, y3, y4, y5⟩ := leads_loop hM hw x2 hP ht x3 hTn
    obtain ⟨u, u1, u2, u3, u4, u5⟩ := finds_loop hM hw y3 hP hQn ht y4 y5
    refine ⟨u, ?_, (x1.trans y2).trans u2, u3, fun q i hq hi => ?_⟩
    · dsimp only [f_X11_findAll_b7]
      rw [hg24 x x2, Option.bind_some, if_neg (show ¬ nI t ≥ nI P.n from nI_ge ht (by omega)), y1, Option.bind_some, u1, Option.bind_some]
      simp only [tq_let, nI_1]
    · by_cases e : q = t
      · subst e
        rw [u5 i hi, Doc.fnd_fr hP ht]
      · exact u4 q i (by omega) hi) (fun x hx => by
    dsimp only [f_X11_findAll_b7]
    rw [hg24 x hx.2.1, Option.bind_some, if_pos (Int32.le_refl _)]) (x := c0) ⟨Rf.refl c0, hW0, fun q i h => by omega⟩
  refine ⟨c', ?_, (Rf.G _).trans v2, v3, v4⟩
  have hpf : tq_pf (tc_mk S c) 155 11 31 (.long (mkS (D.nodesOf Q))) = some (tc_mk S c0) := by simp (maxSteps := 3000000) (disch := omega) only [Option.bind_some, tc_bs, tq_let, tc_I1, tc_I2, tc_J1, tc_J2, tc_J3, tc_F1, tc_F2, tc_F3, tc_F4, tc_G1, tc_G2, tc_G3, tc_G4, tc_G5, tc_us, tc_un, s_one, s_holds, s_J13_bitCount, bz_bI, hM.f]; rfl
  unfold f_X11_findAll
  rw [hpf, Option.bind_some, show ((0 : Int32), tc_mk S c0) = (nI 0, tc_mk S c0) from rfl, v1]
  rfl
end RB
