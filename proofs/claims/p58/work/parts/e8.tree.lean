/-! ===== the tree goes together with itself ===== -/
section TRG
variable {S : tq_H} {c c' : tc_C} {di : DI} {D : Doc} {m : Nat} {U : Ups} {P : Pat} {H : Nat → Bool} {Z : Sma} {X : Nat → Bool} {nw : Nat} {ed : Option Nat} {nv : Nat} {vt mv : Nat → Nat} {Dv : Nat → Doc} {i j k p n : Nat} {v x : Int32} {f : Nat → Nat}
/-- as many nodes as spots -/
theorem ct_inj (hf : ∀ i j, i < n → j < n → f i = f j → i = j) (hm : ∀ i, i < n → f i < m) : fb_ct (fun v => anyB (fun i => decide (f i = v)) n) m = n := by
  induction n with
  | zero =>
    rw [fb_ct_zero]
    intro k _
    rfl
  | succ n ih =>
    have h1 := ih (fun i j hi hj => hf i j (by omega) (by omega)) (fun i hi => hm i (by omega))
    have h2 := fb_ct_upd (fun v => anyB (fun i => decide (f i = v)) n) true (hm n (Nat.lt_succ_self n))
    have h3 : anyB (fun i => decide (f i = f n)) n = false := by
      cases e : anyB (fun i => decide (f i = f n)) n with
      | false => rfl
      | true =>
        obtain ⟨i, hi, z⟩ := anyB_iff.mp e
        have := hf i n (by omega) (by omega) (of_decide_eq_true z)
        omega
    rw [h3, h1] at h2
    have h4 : fb_ct (fun v => anyB (fun i => decide (f i = v)) (n + 1)) m = fb_ct (fun k => if k = f n then true else anyB (fun i => decide (f i = k)) n) m := fb_ct_cong fun v _ => by
      by_cases e : v = f n
      · rw [if_pos e]
        exact anyB_iff.mpr ⟨n, Nat.lt_succ_self n, decide_eq_true e.symm⟩
      · rw [if_neg e]
        cases g : anyB (fun i => decide (f i = v)) n with
        | true =>
          obtain ⟨i, hi, z⟩ := anyB_iff.mp g
          exact anyB_iff.mpr ⟨i, by omega, z⟩
        | false =>
          cases g2 : anyB (fun i => decide (f i = v)) (n + 1) with
          | false => rfl
          | true =>
            obtain ⟨i, hi, z⟩ := anyB_iff.mp g2
            have z := of_decide_eq_true z
            rcases Nat.lt_or_ge i n with y | y
            · have : anyB (fun i => decide (f i = v)) n = true := anyB_iff.mpr ⟨i, y, decide_eq_true z⟩
              rw [g] at this
              cases this
            · have : i = n := by omega
              subst this
              exact absurd z.symm e
    rw [h4]
    simpa using h2
theorem Doc.ct_has (hw : D.wf) (hm : ∀ i, i < D.n → D.ord i < m) : fb_ct D.has m = D.n := ct_inj (fun _ _ hi hj e => D.ord_inj hw hi hj e) hm
/-- a child at a place -/
theorem Doc.kid_in (hw : D.wf) (hj : D.ax 1 i j = true) : D.nd (pk (D.ax 1 i) (nI (fb_ct (D.ax 1 i) j))) = nI (D.ord j) := by
  have h1 := D.ax_lt 1 i j hj
  have h2 := D.n_le hw
  rw [pk_inn (by omega) hj rfl, Doc.nd_in hw h1]
theorem Doc.kid_out (h : fb_ct (D.ax 1 i) 64 ≤ p) (hp : p < 2 ^ 31) : D.nd (pk (D.ax 1 i) (nI p)) = -1 := by
  rw [pk_out (.inr (by rw [nI_clamp hp]; exact h)), D.nd_n]
theorem nI_neg1 (h : k < 2 ^ 31) : ¬ nI k < 0 := Int32.not_lt.mpr (nI_pos' h)
theorem neg1_lt : (-1 : Int32) < 0 := by decide
/-- numbers above one another -/
theorem Rise.lt {M : Nat → Int32} {kk : Nat} (h : Rise M D kk) (hk : kk ≤ 1001) (hij : i < j) (hj : j < D.n) (ki : D.kd i ≠ 2) (kj : D.kd j ≠ 2) : M (D.ord i) < M (D.ord j) := by
  obtain ⟨f, f1, f2, -⟩ := h
  obtain ⟨a1, a2⟩ := f1 i (by omega) ki
  obtain ⟨b1, b2⟩ := f1 j hj kj
  rw [a1, b1]
  exact nI_lt (f2 i j hij hj ki kj) (by omega)
theorem Rise.ge {M : Nat → Int32} {kk : Nat} (h : Rise M D kk) (hk : kk ≤ 1001) (hw : D.wf) (hj : j < D.n) (kj : D.kd j ≠ 2) : ∃ a, M (D.ord j) = nI a ∧ 16 ≤ a ∧ a < 2 ^ 31 := by
  obtain ⟨f, f1, f2, f3⟩ := h
  obtain ⟨b1, b2⟩ := f1 j hj kj
  refine ⟨f j, b1, ?_, by omega⟩
  rcases Nat.eq_zero_or_pos j with z | z
  · subst z; omega
  · have := f2 0 j z hj (by rw [D.kd_0 hw]; decide) kj
    omega
/-- the inner loop: the children of a node -/
theorem tr_kids (hC : Cor S c di D m U P H Z X nw ed nv vt mv Dv) (hk : di.2.1 ≤ 1001) (hi : i < D.n) {i2 i4 : Int32} : tq_loop (f_L_isTree_b70 0 i2 (nI (D.ord i)) i4) tq_N ((1 : Int32), (0 : Int32), tc_mk S c) = some ((1 : Int32), nI (fb_ct (D.ax 1 i) 64), tc_mk S c) := by
  have hw := hC.gt.1.1
  have hn60 := D.n_le hw
  have hct := fb_ct_le (D.ax 1 i) 64
  have n10 : ¬ (1 : Int32) = 0 := by decide
  have rise := hC.gq.2
  have W := tc_iter (B := f_L_isTree_b70 0 i2 (nI (D.ord i)) i4) (fb_ct (D.ax 1 i) 64) (fun p => ((1 : Int32), nI p, tc_mk S c)) (e := ((1 : Int32), nI (fb_ct (D.ax 1 i) 64), tc_mk S c)) (fun p hp => ?_) ?_ (by unfold tq_N; omega)
  · exact W
  · obtain ⟨j, j1, j2, j3⟩ := fb_ct_kth hp
    obtain ⟨k1, k2, k3, k4⟩ := Doc.ax1.mp j2
    have e1 := nr_child hC hi (x := nI p) (nI_pos' (by omega))
    rw [← j3, Doc.kid_in hw j2, j3] at e1
    have hjo := D.ord_lt hw k1
    have q1 : ¬ nI (D.ord j) < 0 := nI_neg1 (by omega)
    have e2 := nr_child hC hi (x := nI p + 1) (by rw [show (1 : Int32) = nI 1 from rfl, nI_add]; exact nI_pos' (by omega))
    have e3 := nr_parent hC k1
    have e3 : f_N_parent 0 (nI (D.ord j)) (tc_mk S c) = some (nI (D.ord i), tc_mk S c) := by rw [e3, Doc.upN, if_neg (by omega), k3]
    have e4 := nr_number hC k1
    have e5 := nr_number hC hi
    have kdi : D.kd i = 0 := by rw [← k3]; exact D.kd_up hw k2 k1
    have kdi2 : D.kd i ≠ 2 := by rw [kdi]; decide
    have hij : i < j := by rw [← k3]; exact D.up_lt hw k2 k1
    have q2 : ¬ c.1 34 (D.ord j) ≤ c.1 34 (D.ord i) := Int32.not_le.mpr (rise.lt hk hij k1 kdi2 k4)
    have x1 : nI p + 1 = nI (p + 1) := nI_1 p
    rcases Nat.lt_or_ge (p + 1) (fb_ct (D.ax 1 i) 64) with z | z
    · obtain ⟨t, t1, t2, t3⟩ := fb_ct_kth z
      obtain ⟨s1, s2, s3, s4⟩ := Doc.ax1.mp t2
      rw [x1, ← t3, Doc.kid_in hw t2, t3] at e2
      have hto := D.ord_lt hw s1
      have q3 : ¬ nI (D.ord t) < 0 := nI_neg1 (by omega)
      have hjt : j < t := by
        rcases Nat.lt_or_ge j t with y | y
        · exact y
        · have := fb_ct_mono (D.ax 1 i) y
          omega
      have q4 : ¬ c.1 34 (D.ord t) ≤ c.1 34 (D.ord j) := Int32.not_le.mpr (rise.lt hk hjt s1 k4 s4)
      have e6 := nr_number hC s1
      simp only [f_L_isTree_b70, e1, e2, e3, e4, e5, e6, q1, q2, q3, q4, n10, Option.bind_some, tq_let, if_true, if_false, x1]
    · rw [x1, Doc.kid_out z (by omega)] at e2
      simp only [f_L_isTree_b70, e1, e2, e3, e4, e5, q1, q2, neg1_lt, n10, Option.bind_some, tq_let, if_true, if_false, x1]
  · have e1 := nr_child hC hi (x := nI (fb_ct (D.ax 1 i) 64)) (nI_pos' (by omega))
    rw [Doc.kid_out (Nat.le_refl _) (by omega)] at e1
    simp only [f_L_isTree_b70, e1, neg1_lt, Option.bind_some, if_true]
/-- a tree -/
theorem tree_ok (hC : Cor S c di D m U P H Z X nw ed nv vt mv Dv) (hk : di.2.1 ≤ 1001) : f_L_isTree 0 (tc_mk S c) = some (1, tc_mk S c) := by
  have hw := hC.gt.1.1
  have hn60 := D.n_le hw
  have hn0 := D.n_pos hw
  have hm60 : m ≤ 60 := hC.gt.2.2.1.1
  have hord : ∀ i, i < D.n → D.ord i < m := hC.gt.2.2.1.2.1
  have n10 : ¬ (1 : Int32) = 0 := by decide
  have rise := hC.gq.2
  have z1 : tq_bz 1 = some 1 := rfl
  have cths := D.ct_has hw hord
  have W := tc_iter (B := f_L_isTree_b37 0) m (fun k => ((1 : Int32), nI (fb_ct D.has k), nI k, tc_mk S c)) (e := ((1 : Int32), nI D.n, tc_mk S c)) (fun k hkm => ?_) ?_ (by unfold tq_N; omega)
  · have W : tq_loop (f_L_isTree_b37 0) tq_N ((1 : Int32), (0 : Int32), (0 : Int32), tc_mk S c) = some ((1 : Int32), nI D.n, tc_mk S c) := W
    have e0 := rd_there hC (v := 0) (i := 0) ⟨hn0, by rw [D.ord_0 hw]; rfl⟩
    have e1 := nr_parent hC hn0
    have e2 := nr_number hC hn0
    have o0 : nI (D.ord 0) = 0 := by rw [D.ord_0 hw]; rfl
    have u0 : D.upN 0 = -1 := if_pos rfl
    have f0 : c.1 34 (D.ord 0) = 16 := by
      obtain ⟨f, f1, f2, f3⟩ := rise
      rw [(f1 0 hn0 (by rw [D.kd_0 hw]; decide)).1, f3]; rfl
    rw [o0, u0] at e1
    rw [o0, f0] at e2
    have e3 := rd_nodes hC
    simp only [f_L_isTree, rd_is hC, e0, e1, e2, e3, W, n10, z1, Option.bind_some, if_true, if_false]
  · have e0 := rd_made hC
    have q0 : ¬ nI k ≥ nI m := nI_ge hkm (by omega)
    have x1 : nI k + 1 = nI (k + 1) := nI_1 k
    rw [fb_ct_succ]
    cases hh : D.has k with
    | false =>
      have hno : ∀ i, ¬ D.At (nI k) i := fun i ⟨a, b⟩ => by
        have h60 := D.ord_lt hw a
        have : k = D.ord i := (nI_eq (by omega) (by omega)).mp b
        rw [Doc.has_iff.mpr ⟨i, a, this.symm⟩] at hh
        cases hh
      have e1 := rd_there_n hC hno
      simp only [f_L_isTree_b37, rd_is hC, e0, q0, e1, n10, Option.bind_some, tq_let, if_true, if_false, x1, Bool.false_eq_true, Nat.add_zero]
    | true =>
      obtain ⟨i, hi, hio⟩ := Doc.has_iff.mp hh
      subst hio
      have e1 := rd_there hC (v := nI (D.ord i)) (i := i) ⟨hi, rfl⟩
      have e2 := nr_parent hC hi
      have e3 := fun i2 i4 => tr_kids hC hk hi (i2 := i2) (i4 := i4)
      have e4 := nr_kind hC hi
      have e5 := nr_space hC hi
      have e6 := nr_name hC hi
      have e7 := nr_number hC hi
      have y1 : nI (fb_ct D.has (D.ord i)) + 1 = nI (fb_ct D.has (D.ord i) + 1) := nI_1 _
      have n01 : ¬ (0 : Int32) = 1 := by decide
      have n02 : ¬ (0 : Int32) = 2 := by decide
      have n12 : ¬ (1 : Int32) = 2 := by decide
      have n20 : ¬ (2 : Int32) = 0 := by decide
      have n21 : ¬ (2 : Int32) = 1 := by decide
      -- what is told of the node itself
      have num : D.kd i ≠ 2 → ∃ a, c.1 34 (D.ord i) = nI a ∧ ¬ nI a = -1 := fun q => by
        obtain ⟨a, a1, a2, a3⟩ := rise.ge hk hw hi q
        exact ⟨a, a1, nI_nm1 a3⟩
      by_cases hi0 : i = 0
      · subst hi0
        have o0 : nI (D.ord 0) = 0 := by rw [D.ord_0 hw]; rfl
        have r := D.kd_0 hw
        obtain ⟨s, s1, s2⟩ := D.sp_of hw 0 hi
        have q5 : ¬ nI s < 0 := nI_neg1 (by omega)
        obtain ⟨a, a1, q7⟩ := num (by rw [r]; decide)
        have nm : ∃ t, D.nm 0 = nI t ∧ ¬ nI t = -1 := by
          rcases D.nm_of hw hi with ⟨z, -⟩ | ⟨-, t, t1, t2⟩
          · rw [r] at z; exact absurd z n01
          · exact ⟨t, t2, nI_nm1 (by omega)⟩
        obtain ⟨t, t1, q6⟩ := nm
        rw [r] at e4
        rw [if_pos r, s2] at e5
        rw [t1] at e6
        rw [a1] at e7
        rw [o0] at e1 e2 e4 e5 e6 e7 x1 q0
        simp only [o0] at e3
        simp only [f_L_isTree_b37, rd_is hC, e0, q0, e1, e2, e3, e4, e5, e6, e7, q5, q6, q7, n01, n02, n10, Option.bind_some, tq_let, if_true, if_false, x1, y1, o0]
      · have h60 := D.ord_lt hw hi
        have k0 : ¬ nI (D.ord i) = 0 := fun z => hi0 (D.ord_inj hw hi hn0 (by rw [D.ord_0 hw]; exact (nI_eq (b := 0) (by omega) (by decide)).mp z))
        have hu := D.up_lt hw (Nat.pos_of_ne_zero hi0) hi
        have hun : D.up i < D.n := by omega
        have eu : D.upN i = nI (D.ord (D.up i)) := if_neg hi0
        rw [eu] at e2
        have e8 := rd_there hC (v := nI (D.ord (D.up i))) (i := D.up i) ⟨hun, rfl⟩
        have e9 := nr_kind hC hun
        rw [D.kd_up hw (Nat.pos_of_ne_zero hi0) hi] at e9
        rcases D.kd_of hw hi with r | r | r
        · obtain ⟨s, s1, s2⟩ := D.sp_of hw i hi
          have q5 : ¬ nI s < 0 := nI_neg1 (by omega)
          obtain ⟨a, a1, q7⟩ := num (by rw [r]; decide)
          have nm : ∃ t, D.nm i = nI t ∧ ¬ nI t = -1 := by
            rcases D.nm_of hw hi with ⟨z, -⟩ | ⟨-, t, t1, t2⟩
            · rw [r] at z; exact absurd z n01
            · exact ⟨t, t2, nI_nm1 (by omega)⟩
          obtain ⟨t, t1, q6⟩ := nm
          rw [r] at e4
          rw [if_pos r, s2] at e5
          rw [t1] at e6
          rw [a1] at e7
          simp only [f_L_isTree_b37, rd_is hC, e0, q0, e1, e2, e3, e4, e5, e6, e7, e8, e9, k0, q5, q6, q7, n01, n02, n10, Option.bind_some, tq_let, if_true, if_false, x1, y1]
        · obtain ⟨a, a1, q7⟩ := num (by rw [r]; decide)
          have r0 : ¬ D.kd i = 0 := by rw [r]; exact n10
          have nm : D.nm i = -1 := by
            rcases D.nm_of hw hi with ⟨-, z⟩ | ⟨z, -⟩
            · exact z
            · exact absurd r z
          have p4 : nI (fb_ct (D.ax 1 i) 64) = 0 := by rw [Doc.cc_0 hw hi r0]; rfl
          rw [r] at e4
          rw [if_neg r0] at e5
          rw [nm] at e6
          rw [a1] at e7
          simp only [p4] at e3
          simp only [f_L_isTree_b37, rd_is hC, e0, q0, e1, e2, e3, e4, e5, e6, e7, e8, e9, k0, neg1_lt, q7, n01, n10, n12, Option.bind_some, tq_let, if_true, if_false, x1, y1]
        · have r0 : ¬ D.kd i = 0 := by rw [r]; exact n20
          have nm : ∃ t, D.nm i = nI t ∧ ¬ nI t = -1 := by
            rcases D.nm_of hw hi with ⟨z, -⟩ | ⟨-, t, t1, t2⟩
            · rw [r] at z; exact absurd z n21
            · exact ⟨t, t2, nI_nm1 (by omega)⟩
          obtain ⟨t, t1, q6⟩ := nm
          have p4 : nI (fb_ct (D.ax 1 i) 64) = 0 := by rw [Doc.cc_0 hw hi r0]; rfl
          rw [r] at e4
          rw [if_neg r0] at e5
          rw [t1] at e6
          rw [hC.2.2.1.2.1 i hi r] at e7
          simp only [p4] at e3
          simp only [f_L_isTree_b37, rd_is hC, e0, q0, e1, e2, e3, e4, e5, e6, e7, e8, e9, k0, neg1_lt, q6, n10, n20, n21, Option.bind_some, tq_let, if_true, if_false, x1, y1]
  · have e0 := rd_made hC
    have q0 : nI m ≥ nI m := Int32.le_refl _
    simp only [f_L_isTree_b37, rd_is hC, e0, q0, Option.bind_some, if_true, cths]
end TRG
