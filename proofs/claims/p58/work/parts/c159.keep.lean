/-! ===== a version is kept ===== -/
/-- the same below a number -/
def Ol (N : Nat) (c c' : tc_C) : Prop := (∀ a, a < N → c'.1 a = c.1 a) ∧ (∀ a, a < N → c'.2.1 a = c.2.1 a) ∧ (∀ a, a < N → c'.2.2.1 a = c.2.2.1 a) ∧ (∀ a, a < N → c'.2.2.2.1 a = c.2.2.2.1 a) ∧ (∀ a, a < N → c'.2.2.2.2 a = c.2.2.2.2 a)
section KEP
variable {S : tq_H} {c c' c1 c2 : tc_C} {di : DI} {D : Doc} {m : Nat} {U : Ups} {P : Pat} {H : Nat → Bool} {Z : Sma} {X : Nat → Bool} {nw : Nat} {ed : Option Nat} {nv : Nat} {vt mv : Nat → Nat} {Dv : Nat → Doc} {q k n z N : Nat} {y4 : Int32} {xs : Nat → Int32} {h0 : tq_H} {L : List tq_O}
theorem Ol.refl : Ol N c c := ⟨fun _ _ => rfl, fun _ _ => rfl, fun _ _ => rfl, fun _ _ => rfl, fun _ _ => rfl⟩
theorem Ol.trans (h : Ol N c c1) (g : Ol N c1 c2) : Ol N c c2 := ⟨fun a z => (g.1 a z).trans (h.1 a z), fun a z => (g.2.1 a z).trans (h.2.1 a z), fun a z => (g.2.2.1 a z).trans (h.2.2.1 a z), fun a z => (g.2.2.2.1 a z).trans (h.2.2.2.1 a z), fun a z => (g.2.2.2.2 a z).trans (h.2.2.2.2 a z)⟩
theorem ext_ol (S : tq_H) (c : tc_C) (L : List tq_O) : Ol S.1 c (ext S c L) := ⟨fun _ z => if_pos (.inl z), fun _ z => if_pos (.inl z), fun _ z => if_pos (.inl z), fun _ z => if_pos (.inl z), fun _ z => if_pos (.inl z)⟩
theorem tc_upR {t n : Nat} {g : Nat → Option Nat} (h : S.2 q = .inr (t, (n, .inr (.inr (.inr (.inr g)))))) (f : Nat → Option Nat) : tq_up (tc_mk S c) q (.inr (t, (n, .inr (.inr (.inr (.inr f)))))) = tc_mk S (tc_R c q f) := by
  refine Prod.ext rfl (funext fun j => ?_)
  show (if j = q then _ else tc_ob c j (S.2 j)) = tc_ob _ j (S.2 j)
  by_cases hj : j = q
  · subst hj
    rw [if_pos rfl, h]
    simp [tc_ob, tc_R, tc_us]
  · rw [if_neg hj]
    unfold tc_ob tc_R
    simp [tc_un _ _ hj]
theorem tc_sqN {g : Nat → Option Nat} {b : Nat} {fs : List Value} (h : S.2 q = .inr (3, (n, .inr (.inr (.inr (.inr g)))))) (hv : S.2 b = .inl (8, fs)) (hk : k < n) (hn : n < 2 ^ 31) : tq_sq (tc_mk S c) q (nI k) b = some (tc_mk S (tc_R c q (va_up (c.2.2.2.2 q) k (some b)))) := by
  have e1 := tc_qa (c := c) h
  have e2 := tc_o (c := c) hv
  unfold tq_sq
  simp only [e1, e2]
  rw [nI_clamp (by omega), if_neg (by rintro (w | w); exact nI_pos (by omega) w; omega), tc_upR h]
theorem treeB_eq (b : Nat) : treeB b = [.inl (8, [.ref (b + 1), .ref (b + 22), .ref (b + 24), .ref (b + 26), .ref (b + 28), .ref (b + 30), .ref (b + 32), .ref (b + 34), .ref (b + 36), .ref (b + 38), .int 0]),
    .inl (3, [.ref (b + 2), .ref (b + 4), .ref (b + 6), .ref (b + 8), .ref (b + 10), .ref (b + 12), .ref (b + 14), .ref (b + 16), .ref (b + 18), .ref (b + 20), .long 0, .long 0, .int 0]),
    .inl (5, [.ref (b + 3)]), .inr (0, (60, .inl (fun j => if j < 60 then -1 else 0))),
    .inl (5, [.ref (b + 5)]), .inr (0, (60, .inl (fun j => if j < 60 then -1 else 0))),
    .inl (5, [.ref (b + 7)]), .inr (0, (60, .inl (fun j => if j < 60 then -1 else 0))),
    .inl (5, [.ref (b + 9)]), .inr (0, (60, .inl (fun j => if j < 60 then 0 else 0))),
    .inl (5, [.ref (b + 11)]), .inr (0, (60, .inl (fun j => if j < 60 then -1 else 0))),
    .inl (7, [.ref (b + 13)]), .inr (2, (60, .inr (.inl (fun _ => 0)))),
    .inl (7, [.ref (b + 15)]), .inr (2, (60, .inr (.inl (fun _ => 0)))),
    .inl (7, [.ref (b + 17)]), .inr (2, (60, .inr (.inl (fun _ => 0)))),
    .inl (7, [.ref (b + 19)]), .inr (2, (60, .inr (.inl (fun _ => 0)))),
    .inl (7, [.ref (b + 21)]), .inr (2, (14, .inr (.inl (fun _ => 0)))),
    .inl (5, [.ref (b + 23)]), .inr (0, (60, .inl (fun j => if j < 60 then -1 else 0))),
    .inl (5, [.ref (b + 25)]), .inr (0, (60, .inl (fun j => if j < 60 then -1 else 0))),
    .inl (5, [.ref (b + 27)]), .inr (0, (60, .inl (fun j => if j < 60 then -1 else 0))),
    .inl (5, [.ref (b + 29)]), .inr (0, (60, .inl (fun j => if j < 60 then -1 else 0))),
    .inl (5, [.ref (b + 31)]), .inr (0, (60, .inl (fun j => if j < 60 then -1 else 0))),
    .inl (5, [.ref (b + 33)]), .inr (0, (60, .inl (fun j => if j < 60 then -1 else 0))),
    .inl (5, [.ref (b + 35)]), .inr (0, (60, .inl (fun j => if j < 60 then -1 else 0))),
    .inl (5, [.ref (b + 37)]), .inr (0, (60, .inl (fun j => if j < 60 then -1 else 0))),
    .inl (5, [.ref (b + 39)]), .inr (0, (60, .inl (fun j => if j < 60 then -1 else 0)))] := by
  simp only [treeB, layB, rowB, setB, List.cons_append, List.nil_append, Nat.add_assoc, Nat.reduceAdd]
theorem hl_rw {l : List tq_O} {i : Nat} {f : Nat → Int32} (h1 : l[i]? = some (.inl (5, [.ref (S.1 + (i + 1))]))) (h2 : l[i + 1]? = some (.inr (0, (n, .inl f)))) (hn : n < 100000) : tc_Row (hl S l) (S.1 + i) (S.1 + (i + 1)) n := ⟨hl_at h1, hn, f, hl_at h2⟩
theorem hl_st {l : List tq_O} {i : Nat} {f : Nat → Int64} (h1 : l[i]? = some (.inl (7, [.ref (S.1 + (i + 1))]))) (h2 : l[i + 1]? = some (.inr (2, (n, .inr (.inl f))))) (hn : n < 100000) : tc_Set (hl S l) (S.1 + i) (S.1 + (i + 1)) n := ⟨hl_at h1, hn, f, hl_at h2⟩
theorem new_tree (S : tq_H) : tc_Tree (hl S (treeB S.1)) S.1 := by
  rw [treeB_eq]
  exact ⟨hl_at (i := 0) rfl, hl_at (i := 1) rfl, hl_rw (i := 2) rfl rfl (by decide), hl_rw (i := 4) rfl rfl (by decide), hl_rw (i := 6) rfl rfl (by decide), hl_rw (i := 8) rfl rfl (by decide), hl_rw (i := 10) rfl rfl (by decide), hl_st (i := 12) rfl rfl (by decide), hl_st (i := 14) rfl rfl (by decide), hl_st (i := 16) rfl rfl (by decide), hl_st (i := 18) rfl rfl (by decide), hl_st (i := 20) rfl rfl (by decide), hl_rw (i := 22) rfl rfl (by decide), hl_rw (i := 24) rfl rfl (by decide), hl_rw (i := 26) rfl rfl (by decide), hl_rw (i := 28) rfl rfl (by decide), hl_rw (i := 30) rfl rfl (by decide), hl_rw (i := 32) rfl rfl (by decide), hl_rw (i := 34) rfl rfl (by decide), hl_rw (i := 36) rfl rfl (by decide), hl_rw (i := 38) rfl rfl (by decide)⟩
theorem tree_len (b : Nat) : (treeB b).length = 40 := by rw [treeB_eq]; rfl
/-- the shapes when a version has come -/
theorem SH_keep (h : SH S ed nv vt) : SH (hl S (treeB S.1)) ed (nv + 1) (fun k => if k < nv then vt k else S.1) := by
  obtain ⟨a1, ⟨a2, a3⟩, a4, a5, ⟨a6, a7⟩, a8, a9, a10, a11, a12, a13⟩ := h
  have e := hl_sam S (treeB S.1)
  have l : (hl S (treeB S.1)).1 = S.1 + 40 := by rw [hl_1, tree_len]
  refine ⟨a1.up e a10 (by rw [hl_old (by omega)]; exact a1.1), ⟨a2.up e (by omega), a3.up e (by omega)⟩, a4.up e (by omega), a5.up e (by omega), ⟨a6.up e (by omega), a7.up e (by omega)⟩, a8.up e (by omega), a9.up e a10, by omega, fun k hk => ?_, fun j k hjk hk => ?_, fun q hq => ?_⟩
  · dsimp only
    by_cases w : k < nv
    · rw [if_pos w]
      obtain ⟨b1, b2, b3⟩ := a11 k w
      exact ⟨b1.up e (by omega), b2, by omega⟩
    · rw [if_neg w]
      exact ⟨new_tree S, a10, by omega⟩
  · dsimp only
    rw [if_pos (show j < nv by omega)]
    by_cases w : k < nv
    · rw [if_pos w]; exact a12 j k hjk w
    · rw [if_neg w]; exact (a11 j (by omega)).2.2
  · obtain ⟨b1, b2, b3, b4⟩ := a13 q hq
    refine ⟨b1.up e (by omega), b2, by omega, fun k hk => ?_⟩
    dsimp only
    by_cases w : k < nv
    · rw [if_pos w]; exact b4 k w
    · rw [if_neg w]; exact .inl b3
/-- the class keeps the tree -/
theorem Cor.keepC (h : Cor S c di D m U P H Z X nw ed nv vt mv Dv) (hv : nv < 6) :
    ∃ c1, f_X10_keep 0 (tc_mk S c) = some (.inr (nI nv), tc_mk (hl S (treeB S.1)) (tc_F (tc_R c1 148 (va_up (c.2.2.2.2 148) nv (some S.1))) 0 12 (nI (nv + 1)))) ∧ Ol S.1 c c1 ∧ Lay c1 S.1 D ∧ Nod c1 S.1 D m ∧ ∀ j, j < D.n → D.kd j = 2 → c1.1 (S.1 + 33) (D.ord j) = -1 := by
  have hS := SH_keep h.1
  have hN := h.1.2.2.2.2.2.2.2.1
  obtain ⟨g1, g2, g3, g4, g5⟩ := h.gt
  obtain ⟨-, f2, -⟩ := h.2.2.1
  obtain ⟨k1, -⟩ := h.gk
  have o0 := ext_ol S c (treeB S.1)
  have hn0 : Nod (ext S c (treeB S.1)) 1 D m := g3.pt (fun a _ _ => o0.1 a (by omega)) (by rw [o0.2.2.1 1 (by omega)])
  obtain ⟨c1, a1, a2, a3, a4, a5⟩ := s_X8_copy (S := hl S (treeB S.1)) (c := ext S c (treeB S.1)) (new_tree S) hS.2.1.1 (.inr (by omega)) g1.1 hn0
  have o1 : Ol S.1 (ext S c (treeB S.1)) c1 := ⟨fun a z => a2.1 a (.inl z), fun a z => a2.2.1 a (.inl z), fun a z => a2.2.2.1 a (.inl z), fun a z => a2.2.2.2.1 a (.inl z), fun a z => by rw [a2.2.2.2.2]⟩
  have o2 := o0.trans o1
  refine ⟨c1, ?_, o2, a3, a4, fun j hj h2 => ?_⟩
  · obtain ⟨t0, ⟨g, t1⟩, -⟩ := hS.1
    have x0 : tq_gi (tc_mk S c) 0 10 12 = some (nI nv) := by have := h.tq.f; simp (maxSteps := 3000000) (disch := omega) only [Option.bind_some, tc_bs, tq_let, tc_I1, tc_I2, tc_J1, tc_J2, tc_J3, tc_F1, tc_F2, tc_F3, tc_F4, tc_G1, tc_G2, tc_G3, tc_G4, tc_G5, tc_us, tc_un, s_one, s_holds, s_J13_bitCount, bz_bI, this, k1]
    have x1 : nI nv < 6 := nI_lt hv (by decide)
    have x2 : tq_an (tc_mk S c) 148 = some 6 := by obtain ⟨-, ⟨g, t1⟩, -⟩ := h.tq; exact tc_an t1 (by decide)
    have x3 : tq_new (tc_mk S c) (.inl (8, [.null, .null, .null, .null, .null, .null, .null, .null, .null, .null, .int 0])) = hl (tc_mk S c) [.inl (8, [.null, .null, .null, .null, .null, .null, .null, .null, .null, .null, .int 0])] := by
      have := hl_new (tc_mk S c) [] (.inl (8, [.null, .null, .null, .null, .null, .null, .null, .null, .null, .null, .int 0]))
      rw [hl_nil] at this; exact this
    have x4 : f_X8_init S.1 (hl (tc_mk S c) [.inl (8, [.null, .null, .null, .null, .null, .null, .null, .null, .null, .null, .int 0])]) = some (tc_mk (hl S (treeB S.1)) (ext S c (treeB S.1))) := by
      rw [ext_mk]; exact mk_tree (tc_mk S c)
    have x5 : tq_gr (tc_mk S c) 0 10 7 = some 148 := tc_gr h.tq.1 rfl
    have x6 : ∀ c, tq_gr (tc_mk (hl S (treeB S.1)) c) 0 10 0 = some 1 := fun _ => tc_gr t0 rfl
    have x7 : ∀ c, tq_gr (tc_mk (hl S (treeB S.1)) c) 0 10 7 = some 148 := fun _ => tc_gr t0 rfl
    have x8 : ∀ c, tq_gi (tc_mk (hl S (treeB S.1)) c) 0 10 12 = some (c.2.2.1 0 12) := fun _ => tc_gi t0 rfl
    have x9 : c1.2.2.1 0 12 = nI nv := by rw [o2.2.2.1 0 (by omega)]; exact k1
    have x10 : tq_sq (tc_mk (hl S (treeB S.1)) c1) 148 (nI nv) S.1 = some (tc_mk (hl S (treeB S.1)) (tc_R c1 148 (va_up (c.2.2.2.2 148) nv (some S.1)))) := by
      rw [tc_sqN t1 (new_tree S).1 hv (by decide), o2.2.2.2.2 148 (by omega)]
    have x11 : ∀ c x, tq_pf (tc_mk (hl S (treeB S.1)) c) 0 10 12 (.int x) = some (tc_mk (hl S (treeB S.1)) (tc_F c 0 12 x)) := fun _ _ => tc_pfI t0 rfl
    have x12 : tq_is (tc_mk (hl S (treeB S.1)) (ext S c (treeB S.1))) S.1 8 = some () := tc_is (new_tree S).1
    have x13 : (tc_R c1 148 (va_up (c.2.2.2.2 148) nv (some S.1))).2.2.1 0 12 = nI nv := x9
    have x14 : nI nv + 1 - 1 = nI nv := Int32.add_sub_cancel _ _
    unfold f_X10_keep
    rw [x0]
    simp only [Option.bind_some]
    rw [if_neg (nI_pos (by omega)), x5]
    simp only [Option.bind_some]
    rw [x2]
    simp only [Option.bind_some]
    rw [if_pos x1, tq_let, x3]
    rw [show (tc_mk S c).1 = S.1 from rfl, x4]
    simp only [Option.bind_some]
    rw [x6]
    simp only [Option.bind_some]
    rw [x12]
    simp only [Option.bind_some]
    rw [a1]
    simp only [Option.bind_some, x7, x8, x9, x10, x11, x13]
    simp only [tc_F3, tc_us]
    rw [x14, nI_1]
  · rw [a5 _ (D.ord_lt g1.1 hj), o0.1 34 (by omega)]
    exact f2 j hj h2
abbrev kp1 (a : Nat) : Prop := 194 ≤ a ∧ a ≤ 199
abbrev kp2 (_a : Nat) : Prop := False
abbrev kp3 (q k : Nat) : Prop := q = 155 ∧ (k = 0 ∨ k = 49)
/-- the reference keeps the tree -/
theorem r_keep (hM : tc_Mod S z) (hw : D.wf) (hR : RTree c D m) (h49 : c.2.2.1 155 49 = nI nv) (hv : nv < 6) :
    ∃ c', f_X11_keep 155 (tc_mk S c) = some (nI nv, tc_mk S c') ∧ KV c' nv D ∧ (∀ k Dk, k < nv → Dk.wf → KV c k Dk → KV c' k Dk) ∧ Wr kp1 kp2 kp3 u4 c c' ∧ c'.2.2.1 155 49 = nI (nv + 1) ∧ c'.2.2.1 155 0 = 0 := by
  have hb := hR.bool
  have e0 : ¬ nI nv = 6 := fun z => by have := congrArg Int32.toNatClampNeg z; rw [nI_clamp (by omega)] at this; exact absurd this (by show nv ≠ 6; omega)
  have z0 : tq_bz 0 = some 0 := rfl
  obtain ⟨y, y1, y2, y3, y4, y5⟩ := tc_run (B := f_X11_keep_b25 155) 60 (fun j y => (nI j, tc_mk S y)) (fun j y => (∀ v, v < j → y.1 194 (60 * nv + v) = c.1 163 v ∧ y.1 195 (60 * nv + v) = c.1 157 v ∧ y.1 196 (60 * nv + v) = c.1 158 v ∧ y.1 197 (60 * nv + v) = c.1 159 v ∧ y.1 198 (60 * nv + v) = c.1 160 v ∧ y.1 199 (60 * nv + v) = c.1 161 v) ∧
    (∀ a p, p < 60 * nv → y.1 a p = c.1 a p) ∧ (∀ a, a < 194 ∨ 199 < a → y.1 a = c.1 a) ∧ y.2 = (tc_F c 155 0 0).2) (fun y => tc_mk S y) (by omega) (fun j y hj hy => by
      obtain ⟨g1, g2, g3, g4⟩ := hy
      have e1 : ¬ nI j ≥ 60 := nI_ge hj (by decide)
      obtain ⟨r, hr⟩ := hb j hj
      have e2 : y.1 163 j = bI r := by rw [g3 163 (by omega)]; exact hr
      have e4 : y.2.2.1 155 49 = nI nv := by rw [g4]; exact h49
      have e3 : ((60 : Int32) * nI nv) + nI j = nI (60 * nv + j) := by rw [show (60 : Int32) * nI nv = nI (60 * nv) from nI_mul 60 nv, nI_add]
      have hl : 60 * nv + j < 360 := by omega
      refine ⟨_, by simp (maxSteps := 3000000) (disch := omega) only [Option.bind_some, tc_bs, tq_let, tc_I1, tc_I2, tc_J1, tc_J2, tc_J3, tc_F1, tc_F2, tc_F3, tc_F4, tc_G1, tc_G2, tc_G3, tc_G4, tc_G5, tc_us, tc_un, s_one, s_holds, s_J13_bitCount, bz_bI, f_X11_keep_b25, hM.f, e1, e3, e4, e2, if_false, nI_1]; rfl, fun v hv => ?_, fun a p hp => ?_, fun a ha => ?_, ?_⟩
      · simp (maxSteps := 3000000) (disch := omega) only [Option.bind_some, tc_bs, tq_let, tc_I1, tc_I2, tc_J1, tc_J2, tc_J3, tc_F1, tc_F2, tc_F3, tc_F4, tc_G1, tc_G2, tc_G3, tc_G4, tc_G5, tc_us, tc_un, s_one, s_holds, s_J13_bitCount, bz_bI, if_true]
        rw [g3 157 (by omega), g3 158 (by omega), g3 159 (by omega), g3 160 (by omega), g3 161 (by omega), ← hr]
        by_cases q : v = j
        · subst q
          simp only [upd_s]
          exact ⟨trivial, trivial, trivial, trivial, trivial, trivial⟩
        · have q' : ¬ 60 * nv + v = 60 * nv + j := by omega
          simp only [upd_n _ _ q']
          exact g1 v (by omega)
      · have q' : ¬ p = 60 * nv + j := by omega
        rcases Decidable.em (194 ≤ a ∧ a ≤ 199) with w | w
        · have : a = 194 ∨ a = 195 ∨ a = 196 ∨ a = 197 ∨ a = 198 ∨ a = 199 := by omega
          rcases this with rfl | rfl | rfl | rfl | rfl | rfl <;> simp (maxSteps := 3000000) (disch := omega) only [Option.bind_some, tc_bs, tq_let, tc_I1, tc_I2, tc_J1, tc_J2, tc_J3, tc_F1, tc_F2, tc_F3, tc_F4, tc_G1, tc_G2, tc_G3, tc_G4, tc_G5, tc_us, tc_un, s_one, s_holds, s_J13_bitCount, bz_bI, upd_n _ _ q'] <;> exact g2 _ p hp
        · simp (maxSteps := 3000000) (disch := omega) only [Option.bind_some, tc_bs, tq_let, tc_I1, tc_I2, tc_J1, tc_J2, tc_J3, tc_F1, tc_F2, tc_F3, tc_F4, tc_G1, tc_G2, tc_G3, tc_G4, tc_G5, tc_us, tc_un, s_one, s_holds, s_J13_bitCount, bz_bI, if_true]
          exact g2 a p hp
      · simp (maxSteps := 3000000) (disch := omega) only [Option.bind_some, tc_bs, tq_let, tc_I1, tc_I2, tc_J1, tc_J2, tc_J3, tc_F1, tc_F2, tc_F3, tc_F4, tc_G1, tc_G2, tc_G3, tc_G4, tc_G5, tc_us, tc_un, s_one, s_holds, s_J13_bitCount, bz_bI, if_true]
        exact g3 a ha
      · exact g4) (fun y hy => by
      have e1 : nI 60 ≥ (60 : Int32) := Int32.le_refl _
      simp only [f_X11_keep_b25, ↓reduceIte, e1]) (x := tc_F c 155 0 0) ⟨fun v hv => absurd hv (Nat.not_lt_zero _), fun a p _ => rfl, fun a _ => rfl, rfl⟩
  have y1 : tq_loop (f_X11_keep_b25 155) tq_N ((0 : Int32), tc_mk S (tc_F c 155 0 0)) = some (tc_mk S y) := y1
  have h49' : y.2.2.1 155 49 = nI nv := by rw [y5]; exact h49
  refine ⟨tc_F y 155 49 (nI (nv + 1)), ?_, ?_, ?_, ?_, ?_, ?_⟩
  · have x14 : nI (nv + 1) - 1 = nI nv := by rw [← nI_1]; exact Int32.add_sub_cancel _ _
    simp (maxSteps := 3000000) (disch := omega) only [Option.bind_some, tc_bs, tq_let, tc_I1, tc_I2, tc_J1, tc_J2, tc_J3, tc_F1, tc_F2, tc_F3, tc_F4, tc_G1, tc_G2, tc_G3, tc_G4, tc_G5, tc_us, tc_un, s_one, s_holds, s_J13_bitCount, bz_bI, f_X11_keep, f_X11_refused, hM.f, h49, e0, z0, y1, h49', x14, if_true, if_false, nI_1]
  · obtain ⟨-, r2, r3, r4, r5, r6, r7, r8, r9, r10⟩ := hR
    have at' : ∀ i, i < D.n → _ := fun i hi => y2 (D.ord i) (D.ord_lt hw hi)
    refine ⟨fun i hi => (at' i hi).1.trans (r3 i hi), fun v hv hh => ((y2 v hv).1).trans (r4 v hv fun i hi e => ?_), fun i hi => (at' i hi).2.1.trans (r6 i hi), fun i hi => (at' i hi).2.2.1.trans (r7 i hi), fun i hi => (at' i hi).2.2.2.1.trans (r8 i hi), fun i hi => (at' i hi).2.2.2.2.1.trans (r9 i hi), fun i h0 hi h2 => (at' i hi).2.2.2.2.2.trans (r10 i h0 hi h2)⟩
    rw [Doc.has_iff.mpr ⟨i, hi, e⟩] at hh
    cases hh
  · intro k Dk hk hwk hK
    obtain ⟨a1, a2, a3, a4, a5, a6, a7⟩ := hK
    have lo : ∀ v, v < 60 → 60 * k + v < 60 * nv := fun v hv => by omega
    have lo' : ∀ i, i < Dk.n → 60 * k + Dk.ord i < 60 * nv := fun i hi => lo _ (Dk.ord_lt hwk hi)
    exact ⟨fun i hi => (y3 194 _ (lo' i hi)).trans (a1 i hi), fun v hv hh => (y3 194 _ (lo v hv)).trans (a2 v hv hh), fun i hi => (y3 195 _ (lo' i hi)).trans (a3 i hi), fun i hi => (y3 196 _ (lo' i hi)).trans (a4 i hi), fun i hi => (y3 197 _ (lo' i hi)).trans (a5 i hi), fun i hi => (y3 198 _ (lo' i hi)).trans (a6 i hi), fun i h0 hi h2 => (y3 199 _ (lo' i hi)).trans (a7 i h0 hi h2)⟩
  · refine Wr.trans (c' := tc_F c 155 0 0) (Wr.F _ (by omega)) (Wr.trans (c' := y) ⟨fun a ha => ?_, fun a _ => by rw [y5], fun q k _ => by rw [y5], fun q k _ => by rw [y5], by rw [y5]⟩ (Wr.F _ (by omega)))
    exact y4 a (by omega)
  · rw [tc_F3, tc_us, tc_us]
  · rw [tc_F3, tc_us, tc_un _ _ (show (0 : Nat) ≠ 49 by decide), y5]
    rfl
abbrev kw1 (N a : Nat) : Prop := N ≤ a ∨ (194 ≤ a ∧ a ≤ 199)
abbrev kw2 (N a : Nat) : Prop := N ≤ a ∨ a = 205
abbrev kw3 (N q k : Nat) : Prop := N ≤ q ∨ (q = 0 ∧ k = 12) ∨ (q = 155 ∧ (k = 0 ∨ k = 49))
abbrev kw4 (N q _k : Nat) : Prop := N ≤ q
/-- the relation when a version is kept -/
theorem Cor.kept (h : Cor S c di D m U P H Z X nw ed nv vt mv Dv) (hF : GF c D P H) (hv : nv < 6)
    (k1 : ∀ a, ¬ kw1 S.1 a → c'.1 a = c.1 a) (k2 : ∀ a, ¬ kw2 S.1 a → c'.2.1 a = c.2.1 a) (k3 : ∀ q k, ¬ kw3 S.1 q k → c'.2.2.1 q k = c.2.2.1 q k) (k4 : ∀ q k, ¬ kw4 S.1 q k → c'.2.2.2.1 q k = c.2.2.2.1 q k) (k5 : c'.2.2.2.2 148 = va_up (c.2.2.2.2 148) nv (some S.1))
    (h1 : Lay c' S.1 D) (h2 : Nod c' S.1 D m) (h3 : ∀ j, j < D.n → D.kd j = 2 → c'.1 (S.1 + 33) (D.ord j) = -1) (h4 : KV c' nv D) (h5 : ∀ k Dk, k < nv → Dk.wf → KV c k Dk → KV c' k Dk) (h6 : c'.2.2.1 0 12 = nI (nv + 1)) (h7 : c'.2.2.1 155 49 = nI (nv + 1)) : Cor (hl S (treeB S.1)) c' di D m U P H Z X nw ed (nv + 1) (fun k => if k < nv then vt k else S.1) (fun k => if k < nv then mv k else m) (fun k => if k < nv then Dv k else D) ∧ GF c' D P H := by
  have hS := SH_keep h.1
  have hN := h.1.2.2.2.2.2.2.2.1
  obtain ⟨g0, g1, g2, g3, g4, g5, g6, g7, g8, g9, g10⟩ := h
  have k : Wr (kw1 S.1) (kw2 S.1) (kw3 S.1) (kw4 S.1) c (c'.1, c'.2.1, c'.2.2.1, c'.2.2.2.1, c.2.2.2.2) := ⟨k1, k2, k3, k4, rfl⟩
  have p1 : GT (c'.1, c'.2.1, c'.2.2.1, c'.2.2.2.1, c.2.2.2.2) D m := g1.wr k (fun a _ => by omega) (fun a _ => by omega) (fun q k _ => by omega) (fun q k _ => by omega)
  have p1 : GT c' D m := p1
  have p2 : GN (c'.1, c'.2.1, c'.2.2.1, c'.2.2.2.1, c.2.2.2.2) D := g2.wr k (fun a _ => by omega) (fun q k _ => by omega)
  have p2 : GN c' D := p2
  have pq : GQ (c'.1, c'.2.1, c'.2.2.1, c'.2.2.2.1, c.2.2.2.2) D Z di.2.1 := g10.2.1.wr k (by omega) (by omega)
  have pq : GQ c' D Z di.2.1 := pq
  have p3 : GU (c'.1, c'.2.1, c'.2.2.1, c'.2.2.2.1, c.2.2.2.2) D m U := g3.wr k (fun a _ => by omega) (fun q k _ => by omega)
  have p3 : GU c' D m U := p3
  have p4 : GP (c'.1, c'.2.1, c'.2.2.1, c'.2.2.2.1, c.2.2.2.2) P := g4.wr k (fun a _ => by omega) (fun q k _ => by omega)
  have p4 : GP c' P := p4
  have p5 : GR (c'.1, c'.2.1, c'.2.2.1, c'.2.2.2.1, c.2.2.2.2) P H := g5.wr k (fun a _ => by omega) (fun q k _ => by omega) (fun q k _ => by omega)
  have p5 : GR c' P H := p5
  have p6 : GS (c'.1, c'.2.1, c'.2.2.1, c'.2.2.2.1, c.2.2.2.2) Z := g6.wr k (fun a _ => by omega) (fun q k _ => by omega)
  have p6 : GS c' Z := p6
  have p7 : GX (c'.1, c'.2.1, c'.2.2.1, c'.2.2.2.1, c.2.2.2.2) X := g7.wr k (fun a _ => by omega) (fun q k _ => by omega)
  have p7 : GX c' X := p7
  have p8 : GV (c'.1, c'.2.1, c'.2.2.1, c'.2.2.2.1, c.2.2.2.2) D P nw := g8.wr k (fun a _ => by omega) (fun a _ => by omega) (fun q k _ => by omega)
  have p8 : GV c' D P nw := p8
  have p10 : GF (c'.1, c'.2.1, c'.2.2.1, c'.2.2.2.1, c.2.2.2.2) D P H := GF.wr (c' := (c'.1, c'.2.1, c'.2.2.1, c'.2.2.2.1, c.2.2.2.2)) hF p1.2.1 p4.1 k (fun a _ => by omega) (fun a _ => by omega) (fun q k _ => by omega) (fun q k _ => by omega)
  have p10 : GF c' D P H := p10
  obtain ⟨-, -, -, -, -, -, -, -, hvs, -, hed⟩ := g0
  have p9 : GK c' m (nv + 1) (fun k => if k < nv then vt k else S.1) (fun k => if k < nv then mv k else m) (fun k => if k < nv then Dv k else D) := by
    obtain ⟨b1, b2, b3, b4, b5⟩ := g9
    refine ⟨h6, h7, hv, fun k hk hk6 => ?_, fun k hk => ?_⟩
    · rw [k5]
      show (if k = nv then some S.1 else _) = none
      rw [if_neg (by omega)]
      exact b4 k (by omega) hk6
    · dsimp only
      by_cases w : k < nv
      · simp only [if_pos w]
        obtain ⟨a1, a2, a3, a4, a5, a6, a7, a8⟩ := b5 k w
        obtain ⟨-, v1, v2⟩ := hvs k w
        refine ⟨?_, a2, a3.pt (fun a _ _ => k1 a (by omega)) (fun a _ _ => k2 a (by omega)) (k3 _ _ (by omega)) (k4 _ _ (by omega)) (k4 _ _ (by omega)), a4.pt (fun a _ _ => k1 a (by omega)) (k3 _ _ (by omega)), by rw [k1 (vt k + 33) (by omega)]; exact a5, h5 k _ w a2.1 a6, a7, by rw [k1 156 (by omega)]; exact a8⟩
        rw [k5]
        show (if k = nv then some S.1 else _) = _
        rw [if_neg (by omega)]
        exact a1
      · simp only [if_neg w]
        have e : k = nv := by omega
        refine ⟨?_, g1.1, h1, h2, h3, e ▸ h4, Nat.le_refl _, p1.2.2.2.1.2.2.2.2.1⟩
        rw [k5]
        show (if k = nv then some S.1 else _) = _
        rw [if_pos e]
  refine ⟨⟨hS, p1, p2, p3, p4, p5, p6, p7, p8, p9, ⟨fun q hq a b ha hb => ?_, pq, g10.2.2⟩⟩, p10⟩
  obtain ⟨b1, b2, b3, b4⟩ := hed q hq
  rw [k1 (q + 14) (by omega)]
  rcases g10.1 q hq a b ha hb with w | ⟨w1, w2, w3⟩
  · exact .inl w
  · refine .inr ⟨by omega, by omega, ?_⟩
    dsimp only
    rw [if_pos w1, if_pos w2]
    exact w3
theorem InvE.of (h : Cor S c di D m U P H Z X nw ed nv vt mv Dv ∧ GF c D P H) : InvE di (tc_mk S c) := ⟨S, c, D, m, U, P, H, Z, X, nw, ed, nv, vt, mv, Dv, rfl, h.1, h.2⟩
theorem arm_keep (h : InvE di h0) : ∃ h', f_V_law_c3231 n xs 0 155 205 y4 h0 = some (.inl (y4 + 5, h')) ∧ InvE di h' := by
  obtain ⟨S, c, D, m, U, P, H, Z, X, nw, ed, nv, vt, mv, Dv, rfl, hC, hF⟩ := h
  have e0 : f_V_law_c3231 n xs 0 155 205 y4 (tc_mk S c) = armI (f_V_keep 0 205 (tc_mk S c)) (f_X11_keep 155) y4 := by
    unfold f_V_law_c3231; rfl
  rw [e0]
  obtain ⟨v1, v2, v3, v4, v5⟩ := hC.gk
  have hN := hC.1.2.2.2.2.2.2.2.1
  rcases Nat.lt_or_ge nv 6 with q | q
  · obtain ⟨c1, a1, o, a2, a3, a4⟩ := hC.keepC q
    obtain ⟨S', eS⟩ : ∃ S', S' = hl S (treeB S.1) := ⟨_, rfl⟩
    rw [← eS] at a1
    have hS : SH S' ed (nv + 1) (fun k => if k < nv then vt k else S.1) := by rw [eS]; exact SH_keep hC.1
    obtain ⟨c2, e2⟩ : ∃ c2, c2 = tc_F (tc_R c1 148 (va_up (c.2.2.2.2 148) nv (some S.1))) 0 12 (nI (nv + 1)) := ⟨_, rfl⟩
    rw [← e2] at a1
    have l1 : f_V_keep 0 205 (tc_mk S c) = some (0, tc_mk S' (ansC c2 (nI nv).toInt64)) := by
      have f := hS.1
      have i1 : tq_is (tc_mk S c) 0 10 = some () := tc_is hC.tq.1
      simp (maxSteps := 3000000) (disch := omega) only [Option.bind_some, tc_bs, tq_let, tc_I1, tc_I2, tc_J1, tc_J2, tc_J3, tc_F1, tc_F2, tc_F3, tc_F4, tc_G1, tc_G2, tc_G3, tc_G4, tc_G5, tc_us, tc_un, s_one, s_holds, s_J13_bitCount, bz_bI, f_V_keep, i1, a1, f.f]; rfl
    have d1 : ∀ a, a < S.1 → c2.1 a = c.1 a := fun a ha => by rw [e2]; exact o.1 a ha
    have d2 : ∀ a, a < S.1 → c2.2.1 a = c.2.1 a := fun a ha => by rw [e2]; exact o.2.1 a ha
    have d3 : ∀ a k, a < S.1 → ¬ (a = 0 ∧ k = 12) → c2.2.2.1 a k = c.2.2.1 a k := fun a k ha hk => by
      rw [e2, tc_F3]
      by_cases w : a = 0
      · subst w; rw [tc_us, tc_un _ _ (by omega)]; exact congrFun (o.2.2.1 0 ha) k
      · rw [tc_un _ _ w]; exact congrFun (o.2.2.1 a ha) k
    have d4 : ∀ a, a < S.1 → c2.2.2.2.1 a = c.2.2.2.1 a := fun a ha => by rw [e2]; exact o.2.2.2.1 a ha
    have hR : RTree (ansC c2 (nI nv).toInt64) D m := by
      have g := hC.gt.2.2.2.1
      unfold RTree at g ⊢
      rw [show (ansC c2 (nI nv).toInt64).1 = c2.1 from rfl, show (ansC c2 (nI nv).toInt64).2.2.1 = c2.2.2.1 from rfl, d1 163 (by omega), d1 156 (by omega), d1 157 (by omega), d1 158 (by omega), d1 159 (by omega), d1 160 (by omega), d1 161 (by omega), d3 155 1 (by omega) (by omega)]
      exact g
    have h49 : (ansC c2 (nI nv).toInt64).2.2.1 155 49 = nI nv := (d3 155 49 (by omega) (by omega)).trans v2
    obtain ⟨w, w1, w2, w3, w4, w5, w6⟩ := r_keep hS.2.2.2.2.2.2.1 hC.gt.1.1 hR h49 q
    obtain ⟨y1, y2, y3, y4', y5⟩ := w4
    refine ⟨_, armI_ok hS.2.2.2.2.2.2.1 hS.2.2.2.2.2.2.1 hS.1 l1 w1 w6 (fun _ => by rw [y2 205 (fun z => z)]; unfold ansC; rw [tc_J2, tc_us, updL_s]), ?_⟩
    have s1' : ∀ a, ¬ kw1 S.1 a → w.1 a = c.1 a := fun a ha => (y1 a (by omega)).trans (d1 a (by omega))
    have s3' : ∀ q k, ¬ kw3 S.1 q k → w.2.2.1 q k = c.2.2.1 q k := fun q k ha => (y3 q k (by omega)).trans (d3 q k (by omega) (by omega))
    have s4' : ∀ q k, ¬ kw4 S.1 q k → w.2.2.2.1 q k = c.2.2.2.1 q k := fun q k ha => (y4' q k (fun z => z)).trans (congrFun (d4 q (by omega)) k)
    have s2' : ∀ a, ¬ kw2 S.1 a → w.2.1 a = c.2.1 a := fun a ha => by
      rw [y2 a (fun z => z)]; unfold ansC; rw [tc_J2, tc_un _ _ (by omega)]; exact d2 a (by omega)
    have t1 : ∀ a, S.1 ≤ a → w.1 a = c1.1 a := fun a ha => by rw [y1 a (by omega), e2]; rfl
    have t2 : ∀ a, S.1 ≤ a → w.2.1 a = c1.2.1 a := fun a ha => by rw [y2 a (fun z => z)]; unfold ansC; rw [tc_J2, tc_un _ _ (by omega), e2]; rfl
    have t3 : ∀ a k, S.1 ≤ a → w.2.2.1 a k = c1.2.2.1 a k := fun a k ha => by
      rw [y3 a k (by omega)]; show c2.2.2.1 a k = _; rw [e2, tc_F3, tc_un _ _ (by omega)]; rfl
    have t4 : ∀ a k, S.1 ≤ a → w.2.2.2.1 a k = c1.2.2.2.1 a k := fun a k ha => by rw [y4' a k (fun z => z), e2]; rfl
    rw [eS]
    refine InvE.of (hC.kept hF q s1' s2' s3' s4' ?_ (a2.pt (fun a _ _ => t1 a (by omega)) (fun a _ _ => t2 a (by omega)) (t3 _ _ (by omega)) (t4 _ _ (by omega)) (t4 _ _ (by omega))) (a3.pt (fun a _ _ => t1 a (by omega)) (t3 _ _ (by omega))) (by rw [t1 (S.1 + 33) (by omega)]; exact a4) w2 (fun k Dk hk hw hK => w3 k Dk hk hw ?_) ?_ w5)
    · rw [y5]; show c2.2.2.2.2 148 = _; rw [e2]; exact tc_us c1.2.2.2.2 148 _
    · exact hK.pt fun a h1 h2 => d1 a (by omega)
    · rw [y3 0 12 (by omega)]; show c2.2.2.1 0 12 = _; rw [e2, tc_F3, tc_us, tc_us]
  · have e6 : nv = 6 := by omega
    have z1 : tq_bz 1 = some 1 := rfl
    have n10 : ¬ (1 : Int32) = 0 := by decide
    have l0 : f_X10_keep 0 (tc_mk S c) = some (.inl "java/lang/IllegalStateException", tc_mk S c) := by
      have x2 : tq_an (tc_mk S c) 148 = some 6 := by obtain ⟨-, ⟨g, t1⟩, -⟩ := hC.tq; exact tc_an t1 (by decide)
      have q0 : ¬ nI 6 < 0 := by decide
      have q1 : ¬ nI 6 < 6 := by decide
      subst e6
      simp (maxSteps := 3000000) (disch := omega) only [Option.bind_some, tc_bs, tq_let, tc_I1, tc_I2, tc_J1, tc_J2, tc_J3, tc_F1, tc_F2, tc_F3, tc_F4, tc_G1, tc_G2, tc_G3, tc_G4, tc_G5, tc_us, tc_un, s_one, s_holds, s_J13_bitCount, bz_bI, f_X10_keep, hC.tq.f, v1, q0, x2, q1, if_false]
    have l1 : f_V_keep 0 205 (tc_mk S c) = some (1, tc_mk S c) := by simp (maxSteps := 3000000) (disch := omega) only [Option.bind_some, tc_bs, tq_let, tc_I1, tc_I2, tc_J1, tc_J2, tc_J3, tc_F1, tc_F2, tc_F3, tc_F4, tc_G1, tc_G2, tc_G3, tc_G4, tc_G5, tc_us, tc_un, s_one, s_holds, s_J13_bitCount, bz_bI, f_V_keep, hC.tq.f, l0, if_true]
    have r1 : f_X11_keep 155 (tc_mk S c) = some (0, tc_mk S (tc_F c 155 0 1)) := by
      have q1 : nI 6 = 6 := by decide
      subst e6
      simp (maxSteps := 3000000) (disch := omega) only [Option.bind_some, tc_bs, tq_let, tc_I1, tc_I2, tc_J1, tc_J2, tc_J3, tc_F1, tc_F2, tc_F3, tc_F4, tc_G1, tc_G2, tc_G3, tc_G4, tc_G5, tc_us, tc_un, s_one, s_holds, s_J13_bitCount, bz_bI, f_X11_keep, f_X11_refused, hC.mod.f, v2, q1, z1, n10, if_true, if_false]
    exact arm_read hC hF (.inr ⟨1, 0, n10, l1, r1⟩)
end KEP
