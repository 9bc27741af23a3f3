/-! ===== the distance of two versions ===== -/
def edB (b : Nat) : List tq_O :=
  .inl (1, [.ref (b + 1), .ref (b + 3), .ref (b + 5), .ref (b + 7), .ref (b + 9), .ref (b + 11), .ref (b + 13)]) ::
  (rowB (b + 1) 60 (-1) ++ rowB (b + 3) 60 (-1) ++ rowB (b + 5) 60 (-1) ++ rowB (b + 7) 60 (-1) ++ rowB (b + 9) 3721 0 ++ rowB (b + 11) 3721 0 ++ rowB (b + 13) 36 (-1))
section DIS
variable {S S' : tq_H} {c c' c1 c2 : tc_C} {di : DI} {D E : Doc} {m : Nat} {U : Ups} {P : Pat} {H : Nat → Bool} {Z : Sma} {X : Nat → Bool} {nw : Nat} {ed ed' : Option Nat} {nv : Nat} {vt mv : Nat → Nat} {Dv : Nat → Doc} {q i j k n z : Nat} {y4 x1 x2 : Int32} {xs : Nat → Int32} {h0 : tq_H} {ci : Nat} {fs : List Value} {v : Nat}
theorem mk_ed (H : tq_H) : f_X1_init H.1 (hl H [.inl (1, [.null, .null, .null, .null, .null, .null, .null])]) = some (hl H (edB H.1)) := by
  unfold f_X1_init
  rw [st_row (a := 60) 60 (H.1 + 1) (by decide) rfl (by simp) rfl, st_row (a := 60) 60 (H.1 + 3) (by decide) rfl (by simp) rfl, st_row (a := 60) 60 (H.1 + 5) (by decide) rfl (by simp) rfl, st_row (a := 60) 60 (H.1 + 7) (by decide) rfl (by simp) rfl, st_row (a := 3721) 3721 (H.1 + 9) (by decide) rfl (by simp) rfl, st_row (a := 3721) 3721 (H.1 + 11) (by decide) rfl (by simp) rfl, st_row (a := 36) 36 (H.1 + 13) (by decide) rfl (by simp) rfl]
  rfl
theorem edB_eq (b : Nat) : edB b = [.inl (1, [.ref (b + 1), .ref (b + 3), .ref (b + 5), .ref (b + 7), .ref (b + 9), .ref (b + 11), .ref (b + 13)]),
    .inl (5, [.ref (b + 2)]), .inr (0, (60, .inl (fun j => if j < 60 then -1 else 0))), .inl (5, [.ref (b + 4)]), .inr (0, (60, .inl (fun j => if j < 60 then -1 else 0))), .inl (5, [.ref (b + 6)]), .inr (0, (60, .inl (fun j => if j < 60 then -1 else 0))), .inl (5, [.ref (b + 8)]), .inr (0, (60, .inl (fun j => if j < 60 then -1 else 0))),
    .inl (5, [.ref (b + 10)]), .inr (0, (3721, .inl (fun j => if j < 3721 then 0 else 0))), .inl (5, [.ref (b + 12)]), .inr (0, (3721, .inl (fun j => if j < 3721 then 0 else 0))), .inl (5, [.ref (b + 14)]), .inr (0, (36, .inl (fun j => if j < 36 then -1 else 0)))] := by
  simp only [edB, rowB, List.cons_append, List.nil_append, Nat.add_assoc, Nat.reduceAdd]
theorem ed_len (b : Nat) : (edB b).length = 15 := by rw [edB_eq]; rfl
theorem new_ed (S : tq_H) : tc_Edi (hl S (edB S.1)) S.1 := by
  rw [edB_eq]
  exact ⟨hl_at (i := 0) rfl, hl_rw (i := 1) rfl rfl (by decide), hl_rw (i := 3) rfl rfl (by decide), hl_rw (i := 5) rfl rfl (by decide), hl_rw (i := 7) rfl rfl (by decide), hl_rw (i := 9) rfl rfl (by decide), hl_rw (i := 11) rfl rfl (by decide), hl_rw (i := 13) rfl rfl (by decide)⟩
theorem fill_ref (F : Nat → Int32) (G : Nat → Int64) : ∀ (fs : List Value) (i k : Nat), (tc_fill F G i fs).set k (.ref v) = tc_fill F G i (fs.set k (.ref v))
  | [], _, _ => rfl
  | w :: ws, i, 0 => rfl
  | w :: ws, i, k + 1 => by
    rw [tc_fill, List.set_cons_succ, List.set_cons_succ, tc_fill, fill_ref F G ws (i + 1) k]
theorem tc_pfR (h : S.2 q = .inl (ci, fs)) (hk : k < fs.length) : tq_pf (tc_mk S c) q ci k (.ref v) = some (tc_mk (tq_up S q (.inl (ci, fs.set k (.ref v)))) c) := by
  have e := tc_o (c := c) h
  unfold tq_pf
  rw [e]
  simp only [tc_fill_len, hk, and_self, if_true]
  congr 1
  refine Prod.ext rfl (funext fun j => ?_)
  show (if j = q then _ else tc_ob c j (S.2 j)) = tc_ob c j (if j = q then _ else S.2 j)
  by_cases w : j = q
  · subst w
    rw [if_pos rfl, if_pos rfl, fill_ref]; rfl
  · rw [if_neg w, if_neg w]
/-- the relation, when things far off have changed -/
theorem Cor.far (h : Cor S c di D m U P H Z X nw ed nv vt mv Dv) (hF : GF c D P H) (hS : SH S' ed' nv vt) (hE : GE c' ed' nv Dv di.1)
    (k1 : ∀ a, a < 206 → c'.1 a = c.1 a) (k2 : ∀ a, a < 206 → c'.2.1 a = c.2.1 a) (k3 : ∀ a, a < 206 → c'.2.2.1 a = c.2.2.1 a) (k4 : ∀ a, a < 206 → c'.2.2.2.1 a = c.2.2.2.1 a) (k5 : c'.2.2.2.2 148 = c.2.2.2.2 148)
    (f1 : ∀ k a, k < nv → vt k ≤ a → a < vt k + 40 → c'.1 a = c.1 a) (f2 : ∀ k a, k < nv → vt k ≤ a → a < vt k + 40 → c'.2.1 a = c.2.1 a) (f3 : ∀ k a, k < nv → vt k ≤ a → a < vt k + 40 → c'.2.2.1 a = c.2.2.1 a) (f4 : ∀ k a, k < nv → vt k ≤ a → a < vt k + 40 → c'.2.2.2.1 a = c.2.2.2.1 a) :
    Cor S' c' di D m U P H Z X nw ed' nv vt mv Dv ∧ GF c' D P H := by
  obtain ⟨g0, g1, g2, g3, g4, g5, g6, g7, g8, g9, g10⟩ := h
  have k : Wr (fun a => 206 ≤ a) (fun a => 206 ≤ a) (fun q _ => 206 ≤ q) (fun q _ => 206 ≤ q) c (c'.1, c'.2.1, c'.2.2.1, c'.2.2.2.1, c.2.2.2.2) := ⟨fun a ha => k1 a (by omega), fun a ha => k2 a (by omega), fun q k ha => by rw [k3 q (by omega)], fun q k ha => by rw [k4 q (by omega)], rfl⟩
  have p1 : GT (c'.1, c'.2.1, c'.2.2.1, c'.2.2.2.1, c.2.2.2.2) D m := g1.wr k (fun a _ => by omega) (fun a _ => by omega) (fun q k _ => by omega) (fun q k _ => by omega)
  have p2 : GN (c'.1, c'.2.1, c'.2.2.1, c'.2.2.2.1, c.2.2.2.2) D := g2.wr k (fun a _ => by omega) (fun q k _ => by omega)
  have pq : GQ (c'.1, c'.2.1, c'.2.2.1, c'.2.2.2.1, c.2.2.2.2) D Z di.2.1 := g10.2.1.wr k (by omega) (by omega)
  have pq : GQ c' D Z di.2.1 := pq
  have p3 : GU (c'.1, c'.2.1, c'.2.2.1, c'.2.2.2.1, c.2.2.2.2) D m U := g3.wr k (fun a _ => by omega) (fun q k _ => by omega)
  have p4 : GP (c'.1, c'.2.1, c'.2.2.1, c'.2.2.2.1, c.2.2.2.2) P := g4.wr k (fun a _ => by omega) (fun q k _ => by omega)
  have p5 : GR (c'.1, c'.2.1, c'.2.2.1, c'.2.2.2.1, c.2.2.2.2) P H := g5.wr k (fun a _ => by omega) (fun q k _ => by omega) (fun q k _ => by omega)
  have p6 : GS (c'.1, c'.2.1, c'.2.2.1, c'.2.2.2.1, c.2.2.2.2) Z := g6.wr k (fun a _ => by omega) (fun q k _ => by omega)
  have p7 : GX (c'.1, c'.2.1, c'.2.2.1, c'.2.2.2.1, c.2.2.2.2) X := g7.wr k (fun a _ => by omega) (fun q k _ => by omega)
  have p8 : GV (c'.1, c'.2.1, c'.2.2.1, c'.2.2.2.1, c.2.2.2.2) D P nw := g8.wr k (fun a _ => by omega) (fun a _ => by omega) (fun q k _ => by omega)
  have p10 : GF (c'.1, c'.2.1, c'.2.2.1, c'.2.2.2.1, c.2.2.2.2) D P H := GF.wr (c' := (c'.1, c'.2.1, c'.2.2.1, c'.2.2.2.1, c.2.2.2.2)) hF p1.2.1 p4.1 k (fun a _ => by omega) (fun a _ => by omega) (fun q k _ => by omega) (fun q k _ => by omega)
  refine ⟨⟨hS, p1, p2, p3, p4, p5, p6, p7, p8, ?_, ⟨hE, pq, g10.2.2⟩⟩, p10⟩
  obtain ⟨b1, b2, b3, b4, b5⟩ := g9
  refine ⟨by rw [k3 0 (by omega)]; exact b1, by rw [k3 155 (by omega)]; exact b2, b3, by rw [k5]; exact b4, fun k hk => ?_⟩
  obtain ⟨a1, a2, a3, a4, a5, a6, a7, a8⟩ := b5 k hk
  refine ⟨by rw [k5]; exact a1, a2, a3.pt (fun a _ _ => f1 k a hk (by omega) (by omega)) (fun a _ _ => f2 k a hk (by omega) (by omega)) (by rw [f3 k _ hk (by omega) (by omega)]) (by rw [f4 k _ hk (by omega) (by omega)]) (by rw [f4 k _ hk (by omega) (by omega)]), a4.pt (fun a _ _ => f1 k a hk (by omega) (by omega)) (by rw [f3 k _ hk (by omega) (by omega)]), by rw [f1 k (vt k + 33) hk (by omega) (by omega)]; exact a5, a6.pt (fun a _ _ => k1 a (by omega)), a7, by rw [k1 156 (by omega)]; exact a8⟩
/-- two versions, once there is the object that compares them -/
theorem cor_known {kq : Nat × Nat} (h : Cor S c (dist, kq) D m U P H Z X nw (some q) nv vt mv Dv) (hF : GF c D P H) (hi : i < nv) (hj : j < nv) :
    f_X1_known q (nI i) (nI j) (tc_mk S c) = some (c.1 (q + 14) (6 * i + j)) ∧ (¬ c.1 (q + 14) (6 * i + j) = -1 → c.1 (q + 14) (6 * i + j) = dist (Dv i) (Dv j)) ∧
    ∃ c1 c2, f_X1_count q (vt i) (vt j) (tc_mk S c) = some (dist (Dv i) (Dv j), tc_mk S c1) ∧ f_X1_note q (nI i) (nI j) (dist (Dv i) (Dv j)) (tc_mk S c1) = some (tc_mk S c2) ∧ Cor S c2 (dist, kq) D m U P H Z X nw (some q) nv vt mv Dv ∧ GF c2 D P H := by
  obtain ⟨v1, v2, v3, v4, v5⟩ := h.gk
  obtain ⟨w0, ⟨w1, w1'⟩, l1, x1, -, n1, m1, p1⟩ := v5 i hi
  obtain ⟨y0, ⟨w2, w2'⟩, l2, x2, -, n2, m2, p2⟩ := v5 j hj
  have hS := h.1
  obtain ⟨-, -, -, -, -, -, -, hN, hv, hvo, hed⟩ := h.1
  obtain ⟨b1, b2, b3, b4⟩ := hed q rfl
  obtain ⟨t1, t2, t3⟩ := hv i hi
  obtain ⟨t4, t5, t6⟩ := hv j hj
  have g10 : GE c (some q) nv Dv dist := h.2.2.2.2.2.2.2.2.2.2.1
  have x6 : ∀ a b, nI a * 6 + nI b = nI (6 * a + b) := fun a b => by rw [show (6 : Int32) = nI 6 from rfl, nI_mul, nI_add, Nat.mul_comm]
  refine ⟨?_, fun z => ?_, ?_⟩
  · simp (maxSteps := 3000000) (disch := omega) only [Option.bind_some, tc_bs, tq_let, tc_I1, tc_I2, tc_J1, tc_J2, tc_J3, tc_F1, tc_F2, tc_F3, tc_F4, tc_G1, tc_G2, tc_G3, tc_G4, tc_G5, tc_us, tc_un, s_one, s_holds, s_J13_bitCount, bz_bI, f_X1_known, b1.f, x6, rg_in _ (show 6 * i + j < 36 by omega) (show 36 < 2 ^ 31 by decide)]
  · rcases g10 q rfl i j (by omega) (by omega) with w | ⟨-, -, w⟩
    · exact absurd w z
    · exact w
  · obtain ⟨c1, e1, e2, e3⟩ := s_count (S := S) (c := c) b1 t1 t4 w1 w2 (by have := b4 i hi; omega) (by have := b4 j hj; omega) l1 l2 x1 x2
    obtain ⟨c2, ec2⟩ : ∃ c2, c2 = tc_I (tc_I c1 (q + 14) (upd (c1.1 (q + 14)) (6 * i + j) (dist (Dv i) (Dv j)))) (q + 14) (upd (upd (c1.1 (q + 14)) (6 * i + j) (dist (Dv i) (Dv j))) (6 * j + i) (dist (Dv i) (Dv j))) := ⟨_, rfl⟩
    have o : ∀ a, a < q + 2 ∨ q + 14 < a → c2.1 a = c.1 a := fun a ha => by
      rw [ec2, tc_I1, tc_un _ _ (by omega), tc_I1, tc_un _ _ (by omega)]; exact e2 a (by omega)
    have o2 : c2.2 = c.2 := by rw [ec2]; exact e3
    refine ⟨c1, c2, e1, ?_, h.far hF hS ?_ (fun a ha => o a (by omega)) (fun a _ => by rw [o2]) (fun a _ => by rw [o2]) (fun a _ => by rw [o2]) (by rw [o2]) (fun k a hk h1 h2 => o a (by have := b4 k hk; omega)) (fun k a _ _ _ => by rw [o2]) (fun k a _ _ _ => by rw [o2]) (fun k a _ _ _ => by rw [o2])⟩
    · simp (maxSteps := 3000000) (disch := omega) only [Option.bind_some, tc_bs, tq_let, tc_I1, tc_I2, tc_J1, tc_J2, tc_J3, tc_F1, tc_F2, tc_F3, tc_F4, tc_G1, tc_G2, tc_G3, tc_G4, tc_G5, tc_us, tc_un, s_one, s_holds, s_J13_bitCount, bz_bI, f_X1_note, b1.f, x6, rs_in _ _ (show 6 * i + j < 36 by omega) (show 36 < 2 ^ 31 by decide), rs_in _ _ (show 6 * j + i < 36 by omega) (show 36 < 2 ^ 31 by decide)]
      rw [ec2]
    · intro q' hq a b ha hb
      cases hq
      have r : c2.1 (q + 14) = upd (upd (c1.1 (q + 14)) (6 * i + j) (dist (Dv i) (Dv j))) (6 * j + i) (dist (Dv i) (Dv j)) := by rw [ec2, tc_I1, tc_us]
      rw [r]
      by_cases z1 : a = j ∧ b = i
      · obtain ⟨rfl, rfl⟩ := z1
        right
        rw [upd_s]
        exact ⟨hj, hi, dist_sym _ _⟩
      · rw [upd_n _ _ (by omega)]
        by_cases z2 : a = i ∧ b = j
        · obtain ⟨rfl, rfl⟩ := z2
          right
          rw [upd_s]
          exact ⟨hi, hj, rfl⟩
        · rw [upd_n _ _ (by omega), e2 (q + 14) (by omega)]
          exact g10 q rfl a b ha hb
/-- the object that compares is made -/
theorem Cor.edits (h : Cor S c di D m U P H Z X nw none nv vt mv Dv) (hF : GF c D P H) :
    ∃ S' c', (f_X1_init S.1 (tq_new (tc_mk S c) (.inl (1, [.null, .null, .null, .null, .null, .null, .null])))).bind (fun v10 => tq_pf v10 0 10 11 (.ref S.1)) = some (tc_mk S' c') ∧ Cor S' c' di D m U P H Z X nw (some S.1) nv vt mv Dv ∧ GF c' D P H := by
  obtain ⟨a1, ⟨a2, a3⟩, a4, a5, ⟨a6, a7⟩, a8, a9, a10, a11, a12, a13⟩ := h.1
  have l : (hl S (edB S.1)).1 = S.1 + 15 := by rw [hl_1, ed_len]
  have t0 : (hl S (edB S.1)).2 0 = .inl (10, [.ref 1, .ref 41, .ref 81, .ref 98, .ref 117, .ref 124, .ref 131, .ref 148, .ref 149, .ref 151, .ref 153, .null, .int 0, .int 0, .int 0, .long 0, .long 0, .int 0, .int 0]) := by rw [hl_old (by omega)]; exact a1.1
  obtain ⟨S', eS⟩ : ∃ S', S' = tq_up (hl S (edB S.1)) 0 (.inl (10, [.ref 1, .ref 41, .ref 81, .ref 98, .ref 117, .ref 124, .ref 131, .ref 148, .ref 149, .ref 151, .ref 153, .ref S.1, .int 0, .int 0, .int 0, .long 0, .long 0, .int 0, .int 0])) := ⟨_, rfl⟩
  have l' : S'.1 = S.1 + 15 := by rw [eS]; exact l
  have s0 : S'.2 0 = .inl (10, [.ref 1, .ref 41, .ref 81, .ref 98, .ref 117, .ref 124, .ref 131, .ref 148, .ref 149, .ref 151, .ref 153, edV (some S.1), .int 0, .int 0, .int 0, .long 0, .long 0, .int 0, .int 0]) := by
    rw [eS]
    unfold tq_up
    simp only [if_true, edV]
  have e1 : Sam (hl S (edB S.1)) S' := fun q hq => by rw [eS]; exact if_neg (by omega)
  have e : Sam S S' := fun q hq => (e1 q (by omega)).trans (hl_old hq.2)
  have o := ext_ol S c (edB S.1)
  have hS : SH S' (some S.1) nv vt := by
    refine ⟨a1.up e a10 s0, ⟨a2.up e (by omega), a3.up e (by omega)⟩, a4.up e (by omega), a5.up e (by omega), ⟨a6.up e (by omega), a7.up e (by omega)⟩, a8.up e (by omega), a9.up e a10, by omega, fun k hk => ?_, a12, fun q hq => ?_⟩
    · obtain ⟨b1, b2, b3⟩ := a11 k hk
      exact ⟨b1.up e (by omega), b2, by omega⟩
    · cases hq
      exact ⟨(new_ed S).up e1 (by omega), a10, by omega, fun k hk => .inr (a11 k hk).2.2⟩
  refine ⟨S', ext S c (edB S.1), ?_, h.far hF hS ?_ (fun a ha => o.1 a (by omega)) (fun a ha => o.2.1 a (by omega)) (fun a ha => o.2.2.1 a (by omega)) (fun a ha => o.2.2.2.1 a (by omega)) (o.2.2.2.2 148 (by omega)) (fun k a hk h1 h2 => o.1 a (by have := a11 k hk; omega)) (fun k a hk h1 h2 => o.2.1 a (by have := a11 k hk; omega)) (fun k a hk h1 h2 => o.2.2.1 a (by have := a11 k hk; omega)) (fun k a hk h1 h2 => o.2.2.2.1 a (by have := a11 k hk; omega))⟩
  · have x3 : tq_new (tc_mk S c) (.inl (1, [.null, .null, .null, .null, .null, .null, .null])) = hl (tc_mk S c) [.inl (1, [.null, .null, .null, .null, .null, .null, .null])] := by
      have := hl_new (tc_mk S c) [] (.inl (1, [.null, .null, .null, .null, .null, .null, .null]))
      rw [hl_nil] at this; exact this
    have x4 : f_X1_init S.1 (hl (tc_mk S c) [.inl (1, [.null, .null, .null, .null, .null, .null, .null])]) = some (tc_mk (hl S (edB S.1)) (ext S c (edB S.1))) := by
      rw [ext_mk]; exact mk_ed (tc_mk S c)
    rw [x3, x4, Option.bind_some, tc_pfR t0 (by decide), eS]
    rfl
  · intro q' hq a b ha hb
    cases hq
    left
    have e14 : (ext S c (edB S.1)).1 (S.1 + 14) = (ctn (hl S (edB S.1))).1 (S.1 + 14) := if_neg (by rw [ed_len]; omega)
    have : (hl S (edB S.1)).2 (S.1 + 14) = .inr (0, (36, .inl (fun j => if j < 36 then -1 else 0))) := by rw [edB_eq]; exact hl_at (i := 14) rfl
    rw [e14]
    simp only [ctn, this]
    rw [if_pos (by omega)]
theorem arm_distance {kq : Nat × Nat} (h : InvE (dist, kq) h0) (e1 : tq_sx n xs (y4 + 1) = some x1) (e2 : tq_sx n xs (y4 + 2) = some x2) : ∃ h', f_V_law_c3331 n xs 0 155 205 y4 h0 = some (.inl (y4 + 5, h')) ∧ InvE (dist, kq) h' := by
  obtain ⟨S, c, D, m, U, P, H, Z, X, nw, ed, nv, vt, mv, Dv, rfl, hC, hF⟩ := h
  have e0 : f_V_law_c3331 n xs 0 155 205 y4 (tc_mk S c) = armI (f_V_distance 0 x1 x2 205 (tc_mk S c)) (f_X11_distance 155 x1 x2) y4 := by
    unfold f_V_law_c3331; rw [e1, e2]; rfl
  rw [e0]
  have n10 : ¬ (1 : Int32) = 0 := by decide
  have z1 : tq_bz 1 = some 1 := rfl
  have i0 : ∀ {S c ed}, tc_Tq S ed → tq_is (tc_mk S c) 0 10 = some () := fun h => tc_is h.1
  have is11 : ∀ c, tq_is (tc_mk S c) 155 11 = some () := fun c => by simp (maxSteps := 3000000) (disch := omega) only [Option.bind_some, tc_bs, tq_let, tc_I1, tc_I2, tc_J1, tc_J2, tc_J3, tc_F1, tc_F2, tc_F3, tc_F4, tc_G1, tc_G2, tc_G3, tc_G4, tc_G5, tc_us, tc_un, s_one, s_holds, s_J13_bitCount, bz_bI, hC.mod.f]
  obtain ⟨v1, v2, v3, v4, v5⟩ := hC.gk
  by_cases q1 : 0 ≤ x1 ∧ x1 < nI nv
  · obtain ⟨i, hi, hi6, rfl, l1, r1⟩ := hC.ver q1
    by_cases q2 : 0 ≤ x2 ∧ x2 < nI nv
    · obtain ⟨j, hj, hj6, rfl, l2, r2⟩ := hC.ver q2
      -- the class's call
      have good : ∃ S' c' ed', f_V_distance 0 (nI i) (nI j) 205 (tc_mk S c) = some (0, tc_mk S' (ansC c' (dist (Dv i) (Dv j)).toInt64)) ∧ Cor S' c' (dist, kq) D m U P H Z X nw ed' nv vt mv Dv ∧ GF c' D P H := by
        cases ed with
        | none =>
          obtain ⟨S', c', a1, a2, a3⟩ := hC.edits hF
          obtain ⟨b1, b2, c1, c2, b3, b4, b5, b6⟩ := cor_known (i := i) (j := j) a2 a3 hi hj
          have g0 : tq_gq (tc_mk S c) 0 10 11 = some none := tc_gqN hC.tq.1 rfl
          have g1 : ∀ c, tq_gq (tc_mk S' c) 0 10 11 = some (some S.1) := fun _ => tc_gq a2.tq.1 rfl
          have i1 : ∀ c, tq_is (tc_mk S' c) S.1 1 = some () := fun c => by
            obtain ⟨-, -, -, -, -, -, -, -, -, -, hed⟩ := a2.1
            exact tc_is (hed S.1 rfl).1.1
          have run : ∀ {w : Int32} {c3 : tc_C}, (if c'.1 (S.1 + 14) (6 * i + j) = -1 then w = dist (Dv i) (Dv j) ∧ c3 = c2 else w = c'.1 (S.1 + 14) (6 * i + j) ∧ c3 = c') → f_X10_distance 0 (nI i) (nI j) (tc_mk S c) = some (.inr w, tc_mk S' c3) := fun {w c3} hw => by
            obtain ⟨u, a4, a5⟩ := Option.bind_eq_some_iff.mp a1
            by_cases z : c'.1 (S.1 + 14) (6 * i + j) = -1
            · rw [if_pos z] at hw
              rw [hw.1, hw.2]
              rw [z] at b1
              simp (maxSteps := 3000000) (disch := omega) only [Option.bind_some, tc_bs, tq_let, tc_I1, tc_I2, tc_J1, tc_J2, tc_J3, tc_F1, tc_F2, tc_F3, tc_F4, tc_G1, tc_G2, tc_G3, tc_G4, tc_G5, tc_us, tc_un, s_one, s_holds, s_J13_bitCount, bz_bI, f_X10_distance, i0 hC.tq, l1, l2, tb_r, g0]
              rw [show (tc_mk S c).1 = S.1 from rfl, a4]
              simp only [Option.bind_some]
              rw [a5]
              simp (maxSteps := 3000000) (disch := omega) only [Option.bind_some, tc_bs, tq_let, tc_I1, tc_I2, tc_J1, tc_J2, tc_J3, tc_F1, tc_F2, tc_F3, tc_F4, tc_G1, tc_G2, tc_G3, tc_G4, tc_G5, tc_us, tc_un, s_one, s_holds, s_J13_bitCount, bz_bI, g1, i1, b1, b3, b4, if_true]
            · rw [if_neg z] at hw
              rw [hw.1, hw.2]
              simp (maxSteps := 3000000) (disch := omega) only [Option.bind_some, tc_bs, tq_let, tc_I1, tc_I2, tc_J1, tc_J2, tc_J3, tc_F1, tc_F2, tc_F3, tc_F4, tc_G1, tc_G2, tc_G3, tc_G4, tc_G5, tc_us, tc_un, s_one, s_holds, s_J13_bitCount, bz_bI, f_X10_distance, i0 hC.tq, l1, l2, tb_r, g0]
              rw [show (tc_mk S c).1 = S.1 from rfl, a4]
              simp only [Option.bind_some]
              rw [a5]
              simp (maxSteps := 3000000) (disch := omega) only [Option.bind_some, tc_bs, tq_let, tc_I1, tc_I2, tc_J1, tc_J2, tc_J3, tc_F1, tc_F2, tc_F3, tc_F4, tc_G1, tc_G2, tc_G3, tc_G4, tc_G5, tc_us, tc_un, s_one, s_holds, s_J13_bitCount, bz_bI, g1, i1, b1, z, if_false]
          by_cases z : c'.1 (S.1 + 14) (6 * i + j) = -1
          · refine ⟨S', c2, some S.1, ?_, b5, b6⟩
            have := run (w := dist (Dv i) (Dv j)) (c3 := c2) (by rw [if_pos z]; exact ⟨rfl, rfl⟩)
            simp (maxSteps := 3000000) (disch := omega) only [Option.bind_some, tc_bs, tq_let, tc_I1, tc_I2, tc_J1, tc_J2, tc_J3, tc_F1, tc_F2, tc_F3, tc_F4, tc_G1, tc_G2, tc_G3, tc_G4, tc_G5, tc_us, tc_un, s_one, s_holds, s_J13_bitCount, bz_bI, f_V_distance, i0 hC.tq, this, a2.tq.f]; rfl
          · refine ⟨S', c', some S.1, ?_, a2, a3⟩
            have := run (w := dist (Dv i) (Dv j)) (c3 := c') (by rw [if_neg z]; exact ⟨(b2 z).symm, rfl⟩)
            simp (maxSteps := 3000000) (disch := omega) only [Option.bind_some, tc_bs, tq_let, tc_I1, tc_I2, tc_J1, tc_J2, tc_J3, tc_F1, tc_F2, tc_F3, tc_F4, tc_G1, tc_G2, tc_G3, tc_G4, tc_G5, tc_us, tc_un, s_one, s_holds, s_J13_bitCount, bz_bI, f_V_distance, i0 hC.tq, this, a2.tq.f]; rfl
        | some q =>
          obtain ⟨b1, b2, c1, c2, b3, b4, b5, b6⟩ := cor_known (i := i) (j := j) hC hF hi hj
          have g1 : ∀ c, tq_gq (tc_mk S c) 0 10 11 = some (some q) := fun _ => tc_gq hC.tq.1 rfl
          have i1 : ∀ c, tq_is (tc_mk S c) q 1 = some () := fun c => by
            obtain ⟨-, -, -, -, -, -, -, -, -, -, hed⟩ := hC.1
            exact tc_is (hed q rfl).1.1
          by_cases z : c.1 (q + 14) (6 * i + j) = -1
          · refine ⟨S, c2, some q, ?_, b5, b6⟩
            rw [z] at b1
            have : f_X10_distance 0 (nI i) (nI j) (tc_mk S c) = some (.inr (dist (Dv i) (Dv j)), tc_mk S c2) := by
              simp (maxSteps := 3000000) (disch := omega) only [Option.bind_some, tc_bs, tq_let, tc_I1, tc_I2, tc_J1, tc_J2, tc_J3, tc_F1, tc_F2, tc_F3, tc_F4, tc_G1, tc_G2, tc_G3, tc_G4, tc_G5, tc_us, tc_un, s_one, s_holds, s_J13_bitCount, bz_bI, f_X10_distance, i0 hC.tq, l1, l2, tb_r, g1, i1, b1, b3, b4, if_true]
            simp (maxSteps := 3000000) (disch := omega) only [Option.bind_some, tc_bs, tq_let, tc_I1, tc_I2, tc_J1, tc_J2, tc_J3, tc_F1, tc_F2, tc_F3, tc_F4, tc_G1, tc_G2, tc_G3, tc_G4, tc_G5, tc_us, tc_un, s_one, s_holds, s_J13_bitCount, bz_bI, f_V_distance, i0 hC.tq, this, hC.tq.f]; rfl
          · refine ⟨S, c, some q, ?_, hC, hF⟩
            rw [b2 z] at b1
            have zz : ¬ dist (Dv i) (Dv j) = -1 := fun w => z ((b2 z).trans w)
            have : f_X10_distance 0 (nI i) (nI j) (tc_mk S c) = some (.inr (dist (Dv i) (Dv j)), tc_mk S c) := by
              simp (maxSteps := 3000000) (disch := omega) only [Option.bind_some, tc_bs, tq_let, tc_I1, tc_I2, tc_J1, tc_J2, tc_J3, tc_F1, tc_F2, tc_F3, tc_F4, tc_G1, tc_G2, tc_G3, tc_G4, tc_G5, tc_us, tc_un, s_one, s_holds, s_J13_bitCount, bz_bI, f_X10_distance, i0 hC.tq, l1, l2, tb_r, g1, i1, b1, zz, if_false]
            simp (maxSteps := 3000000) (disch := omega) only [Option.bind_some, tc_bs, tq_let, tc_I1, tc_I2, tc_J1, tc_J2, tc_J3, tc_F1, tc_F2, tc_F3, tc_F4, tc_G1, tc_G2, tc_G3, tc_G4, tc_G5, tc_us, tc_un, s_one, s_holds, s_J13_bitCount, bz_bI, f_V_distance, i0 hC.tq, this, hC.tq.f]; rfl
      obtain ⟨S', c', ed', a1, a2, a3⟩ := good
      have a4 := a2.sc (ans_sc c' (dist (Dv i) (Dv j)).toInt64)
      obtain ⟨w, w1, w2, w3, w4⟩ := a4.distR (i := i) (j := j) (a3.ans a2 _) hi hj
      exact ⟨_, armI_ok a4.mod a4.mod a4.tq a1 w1 w2 (fun _ => by rw [w3]; unfold ansC; rw [tc_J2, tc_us, updL_s]), w4⟩
    · obtain ⟨l2, r2⟩ := hC.ver_n q2
      have l0 : f_V_distance 0 (nI i) x2 205 (tc_mk S c) = some (1, tc_mk S c) := by
        have : f_X10_distance 0 (nI i) x2 (tc_mk S c) = some (.inl "java/lang/IndexOutOfBoundsException", tc_mk S c) := by
          simp (maxSteps := 3000000) (disch := omega) only [Option.bind_some, tc_bs, tq_let, tc_I1, tc_I2, tc_J1, tc_J2, tc_J3, tc_F1, tc_F2, tc_F3, tc_F4, tc_G1, tc_G2, tc_G3, tc_G4, tc_G5, tc_us, tc_un, s_one, s_holds, s_J13_bitCount, bz_bI, f_X10_distance, i0 hC.tq, l1, l2, tb_r, tb_l]
        simp (maxSteps := 3000000) (disch := omega) only [Option.bind_some, tc_bs, tq_let, tc_I1, tc_I2, tc_J1, tc_J2, tc_J3, tc_F1, tc_F2, tc_F3, tc_F4, tc_G1, tc_G2, tc_G3, tc_G4, tc_G5, tc_us, tc_un, s_one, s_holds, s_J13_bitCount, bz_bI, f_V_distance, i0 hC.tq, this, if_true]
      have r0 : f_X11_distance 155 (nI i) x2 (tc_mk S c) = some (0, tc_mk S (tc_F c 155 0 1)) := by
        simp (maxSteps := 3000000) (disch := omega) only [Option.bind_some, tc_bs, tq_let, tc_I1, tc_I2, tc_J1, tc_J2, tc_J3, tc_F1, tc_F2, tc_F3, tc_F4, tc_G1, tc_G2, tc_G3, tc_G4, tc_G5, tc_us, tc_un, s_one, s_holds, s_J13_bitCount, bz_bI, f_X11_distance, f_X11_refused, is11, r1 c v2, r2 c v2, hC.mod.f, z1, n10, if_true, if_false]
      exact arm_read hC hF (.inr ⟨1, 0, n10, l0, r0⟩)
  · obtain ⟨l1, r1⟩ := hC.ver_n q1
    have l0 : f_V_distance 0 x1 x2 205 (tc_mk S c) = some (1, tc_mk S c) := by
      have : f_X10_distance 0 x1 x2 (tc_mk S c) = some (.inl "java/lang/IndexOutOfBoundsException", tc_mk S c) := by
        simp (maxSteps := 3000000) (disch := omega) only [Option.bind_some, tc_bs, tq_let, tc_I1, tc_I2, tc_J1, tc_J2, tc_J3, tc_F1, tc_F2, tc_F3, tc_F4, tc_G1, tc_G2, tc_G3, tc_G4, tc_G5, tc_us, tc_un, s_one, s_holds, s_J13_bitCount, bz_bI, f_X10_distance, i0 hC.tq, l1, tb_l]
      simp (maxSteps := 3000000) (disch := omega) only [Option.bind_some, tc_bs, tq_let, tc_I1, tc_I2, tc_J1, tc_J2, tc_J3, tc_F1, tc_F2, tc_F3, tc_F4, tc_G1, tc_G2, tc_G3, tc_G4, tc_G5, tc_us, tc_un, s_one, s_holds, s_J13_bitCount, bz_bI, f_V_distance, i0 hC.tq, this, if_true]
    have r0 : f_X11_distance 155 x1 x2 (tc_mk S c) = some (0, tc_mk S (tc_F c 155 0 1)) := by
      simp (maxSteps := 3000000) (disch := omega) only [Option.bind_some, tc_bs, tq_let, tc_I1, tc_I2, tc_J1, tc_J2, tc_J3, tc_F1, tc_F2, tc_F3, tc_F4, tc_G1, tc_G2, tc_G3, tc_G4, tc_G5, tc_us, tc_un, s_one, s_holds, s_J13_bitCount, bz_bI, f_X11_distance, f_X11_refused, is11, r1 c v2, hC.mod.f, z1, n10, if_true, if_false]
    exact arm_read hC hF (.inr ⟨1, 0, n10, l0, r0⟩)
end DIS
