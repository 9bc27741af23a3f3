/-! ===== the reference finds the order ===== -/
/-- what arranging changes -/
def Af (c c' : tc_C) : Prop :=
  (∀ a, a < 164 ∨ 166 < a → c'.1 a = c.1 a) ∧ c'.2.1 = c.2.1 ∧ (∀ a, a ≠ 155 → c'.2.2.1 a = c.2.2.1 a) ∧ (∀ k, k ≠ 11 → c'.2.2.1 155 k = c.2.2.1 155 k) ∧ c'.2.2.2.1 = c.2.2.2.1 ∧ c'.2.2.2.2 = c.2.2.2.2
/-- the order told so far -/
def RO (c : tc_C) (D : Doc) (i : Nat) : Prop :=
  c.2.2.1 155 11 = nI i ∧ (∀ j, j < i → c.1 164 j = nI (D.ord j)) ∧ (∀ j, j < i → c.1 165 (D.ord j) = nI j) ∧ (∀ v, v < 60 → (∀ j, j < i → D.ord j ≠ v) → c.1 165 v = -1)
/-- the reference's rows answer as the document -/
def Ans (S : tq_H) (c : tc_C) (D : Doc) : Prop :=
  (∀ i j w, i < D.n → D.ax 11 i j = true → D.nm j = nI w → w < 8 → f_X11_attributeOf 155 (nI (D.ord i)) (nI w) (tc_mk S c) = some (nI (D.ord j))) ∧
  (∀ i w, i < D.n → w < 8 → (∀ j, D.ax 11 i j = true → D.nm j ≠ nI w) → f_X11_attributeOf 155 (nI (D.ord i)) (nI w) (tc_mk S c) = some (-1)) ∧
  (∀ i, i < D.n → f_X11_childCount 155 (nI (D.ord i)) (tc_mk S c) = some (nI (fb_ct (D.ax 1 i) 64))) ∧
  (∀ i y, i < D.n → f_X11_childAt 155 (nI (D.ord i)) y (tc_mk S c) = some (D.nd (pk (D.ax 1 i) y)))
/-- what waits on the stack once the spots below i are told -/
def Doc.wt (D : Doc) (i s : Nat) : Bool := decide (s < D.n ∧ i ≤ s ∧ D.kd s ≠ 2 ∧ (s = 0 ∨ D.up s < i))
/-- a loop by a relation with what is left -/
theorem tc_gh {σ ε : Type} {B : σ → Option (σ ⊕ ε)} (R : Nat → σ → Prop) (P : ε → Prop) (hs : ∀ n s, R n s → (∃ s' n', B s = some (.inl s') ∧ R n' s' ∧ n' < n) ∨ ∃ e, B s = some (.inr e) ∧ P e) {n : Nat} {s : σ} (h0 : R n s) (hN : n < tq_N) : ∃ e, tq_loop B tq_N s = some e ∧ P e := by
  have key : ∀ (k n : Nat) (s : σ), R n s → n < k → ∃ e, tq_loop B k s = some e ∧ P e := by
    intro k
    induction k with
    | zero => intro n s _ h; exact absurd h (Nat.not_lt_zero _)
    | succ k ih =>
      intro n s hI hn
      unfold tq_loop
      rcases hs n s hI with ⟨s', n', h1, h2, h3⟩ | ⟨e, h1, h2⟩
      · rw [h1]
        exact ih n' s' h2 (by omega)
      · rw [h1]
        exact ⟨e, rfl, h2⟩
  exact key tq_N n s h0 hN
section ARR
variable {S : tq_H} {c c' c'' : tc_C} {p k d m r z i j : Nat} {D : Doc}
theorem Af.refl (c : tc_C) : Af c c := ⟨fun _ _ => rfl, rfl, fun _ _ => rfl, fun _ _ => rfl, rfl, rfl⟩
theorem Af.trans (h : Af c c') (g : Af c' c'') : Af c c'' := ⟨fun a z => (g.1 a z).trans (h.1 a z), g.2.1.trans h.2.1, fun a z => (g.2.2.1 a z).trans (h.2.2.1 a z), fun a z => (g.2.2.2.1 a z).trans (h.2.2.2.1 a z), g.2.2.2.2.1.trans h.2.2.2.2.1, g.2.2.2.2.2.trans h.2.2.2.2.2⟩
theorem Af.I {a : Nat} (f : Nat → Int32) (h1 : 164 ≤ a) (h2 : a ≤ 166) : Af c (tc_I c a f) := ⟨fun x hx => by rw [tc_I1, tc_un _ _ (by omega)], rfl, fun _ _ => rfl, fun _ _ => rfl, rfl, rfl⟩
theorem Af.F (x : Int32) : Af c (tc_F c 155 11 x) := ⟨fun _ _ => rfl, rfl, fun a h => by rw [tc_F3, tc_un _ _ h], fun k h => by rw [tc_F3, tc_us, tc_un _ _ h], rfl, rfl⟩
theorem RTree.af (h : RTree c D m) (k : Af c c') : RTree c' D m := by
  obtain ⟨k1, k2, k3, k4, -⟩ := k
  unfold RTree
  rw [k1 163 (by omega), k1 156 (by omega), k1 157 (by omega), k1 158 (by omega), k1 159 (by omega), k1 160 (by omega), k1 161 (by omega), k4 1 (by omega)]
  exact h
theorem RTree.ans (hM : tc_Mod S z) (hw : D.wf) (hR : RTree c D m) (ha : D.ao) : Ans S c D :=
  ⟨fun i j w hi hj e _ => s_X11_attributeOf hM hw hR ha hj hi e, fun i w hi _ h => s_X11_attributeOf_n hM hw hR hi h, fun i hi => s_X11_childCount hM hw hR hi, fun i y hi => s_X11_childAt hM hw hR hi y⟩
/-- a spot below another one lies in the span of one of its children -/
theorem Doc.kid_of (hw : D.wf) {i : Nat} (hi : i < D.n) : ∀ t, i < t → t < D.en i → ∃ s, 0 < s ∧ D.up s = i ∧ s ≤ t ∧ t < D.en s ∧ s < D.n := by
  intro t
  induction t using Nat.strongRecOn with
  | ind t ih =>
    intro h1 h2
    have htn : t < D.n := Nat.lt_of_lt_of_le h2 (D.en_le hw hi)
    have hu := D.up_lt hw (show 0 < t by omega) htn
    have h3 := (D.en_up hw h1 htn).mp h2
    by_cases e : D.up t = i
    · exact ⟨t, by omega, e, Nat.le_refl _, D.en_gt hw htn, htn⟩
    · obtain ⟨s, a, b, d, f, g⟩ := ih (D.up t) hu (by omega) h3.2
      refine ⟨s, a, b, by omega, ?_, g⟩
      exact (D.en_up hw (show s < t by omega) htn).mpr ⟨d, f⟩
/-- attributes stand right behind their element -/
theorem Doc.at_dn (hw : D.wf) (ha : D.ao) {i j : Nat} (hi : i < D.n) (h : D.ax 11 i j = true) (hj : i + 1 < j) : D.ax 11 i (j - 1) = true := by
  have hjn := D.ax_lt 11 i j h
  simp [Doc.ax] at h
  have hsp := D.up_sp hw h.2.1 hjn
  rw [h.2.2.1] at hsp
  obtain ⟨s, s1, s2, s3, s4, s5⟩ := D.kid_of hw hi (j - 1) (by omega) (by omega)
  obtain ⟨k2, -⟩ := ha s j s1 (by omega) hjn (by rw [s2, h.2.2.1]) h.2.2.2
  have hl := D.leaf hw s5 (by rw [k2]; decide)
  have : s = j - 1 := by omega
  subst this
  simp [Doc.ax, s1, s2, k2]; omega
def Doc.na (D : Doc) (i : Nat) : Nat := fb_ct (D.ax 11 i) D.n
theorem Doc.at_iff (hw : D.wf) (ha : D.ao) {i : Nat} (hi : i < D.n) (j : Nat) : D.ax 11 i j = true ↔ (i < j ∧ j ≤ i + D.na i) := by
  have hgt : ∀ j, D.ax 11 i j = true → i < j ∧ j < D.n := fun j h => by
    have hjn := D.ax_lt 11 i j h
    simp [Doc.ax] at h
    have := D.up_lt hw h.2.1 hjn
    omega
  -- how far they reach
  have hex : ∃ b, (∀ t, t < b → D.ax 11 i (i + 1 + t) = true) ∧ D.ax 11 i (i + 1 + b) = false := by
    obtain ⟨b, -, h1, h2⟩ := least_ex (p := fun b => D.ax 11 i (i + 1 + b) = false) D.n (by
      cases q : D.ax 11 i (i + 1 + D.n) with
      | false => rfl
      | true => have := (hgt _ q).2; omega)
    refine ⟨b, fun t ht => ?_, h1⟩
    cases q : D.ax 11 i (i + 1 + t) with
    | true => rfl
    | false => exact absurd q (h2 t ht)
  obtain ⟨b, b1, b2⟩ := hex
  have hup : ∀ d, D.ax 11 i (i + 1 + b + d) = false := by
    intro d
    induction d with
    | zero => exact b2
    | succ d ih =>
      cases q : D.ax 11 i (i + 1 + b + (d + 1)) with
      | false => rfl
      | true =>
        have := D.at_dn hw ha hi q (by omega)
        rw [show i + 1 + b + (d + 1) - 1 = i + 1 + b + d by omega, ih] at this; cases this
  have hall : ∀ j, D.ax 11 i j = true ↔ (i < j ∧ j < i + 1 + b) := fun j => by
    constructor
    · intro h
      refine ⟨(hgt j h).1, ?_⟩
      rcases Nat.lt_or_ge j (i + 1 + b) with q | q
      · exact q
      · have := hup (j - (i + 1 + b))
        rw [show i + 1 + b + (j - (i + 1 + b)) = j by omega, h] at this; cases this
    · rintro ⟨h1, h2⟩
      have := b1 (j - (i + 1)) (by omega)
      rwa [show i + 1 + (j - (i + 1)) = j by omega] at this
  have hbn : b = 0 ∨ i + b < D.n := by
    rcases Nat.eq_zero_or_pos b with e | e
    · exact .inl e
    · have := (hgt _ (b1 (b - 1) (by omega))).2; omega
  have hct : D.na i = b := by
    unfold Doc.na
    have h1 : fb_ct (D.ax 11 i) D.n = fb_ct (fun j => decide (i < j ∧ j < i + 1 + b)) D.n := fb_ct_cong fun k _ => by
      apply Bool.ext_iff
      rw [hall k, decide_eq_true_eq]
    rw [h1]
    have h2 := fb_ct_split (fun j => decide (i < j ∧ j < i + 1 + b)) (i + 1) (D.n - (i + 1))
    rw [show i + 1 + (D.n - (i + 1)) = D.n by omega] at h2
    have h3 : fb_ct (fun j => decide (i < j ∧ j < i + 1 + b)) (i + 1) = 0 := fb_ct_zero.mpr (fun k hk => by rw [decide_eq_false_iff_not]; omega)
    have h4 := fb_ct_split (fun k => decide (i < i + 1 + k ∧ i + 1 + k < i + 1 + b)) b (D.n - (i + 1) - b)
    rw [show b + (D.n - (i + 1) - b) = D.n - (i + 1) by omega] at h4
    have h5 : fb_ct (fun k => decide (i < i + 1 + k ∧ i + 1 + k < i + 1 + b)) b = b := fb_ct_all.mpr (fun k hk => by rw [decide_eq_true_eq]; omega)
    have h6 : fb_ct (fun k => decide (i < i + 1 + (b + k) ∧ i + 1 + (b + k) < i + 1 + b)) (D.n - (i + 1) - b) = 0 := fb_ct_zero.mpr (fun k hk => by rw [decide_eq_false_iff_not]; omega)
    omega
  rw [hall, hct]; omega
theorem Doc.at_nm (hw : D.wf) (ha : D.ao) {i : Nat} (hi : i < D.n) {s t : Nat} (hst : s < t) (ht : t < D.na i) : ∃ k l, k < l ∧ l < 8 ∧ D.nm (i + 1 + s) = nI k ∧ D.nm (i + 1 + t) = nI l := by
  have h1 := (D.at_iff hw ha hi (i + 1 + s)).mpr ⟨by omega, by omega⟩
  have h2 := (D.at_iff hw ha hi (i + 1 + t)).mpr ⟨by omega, by omega⟩
  have hn := D.ax_lt 11 i _ h2
  simp [Doc.ax] at h1 h2
  exact (ha (i + 1 + s) (i + 1 + t) (by omega) (by omega) hn (by rw [h1.2.2.1, h2.2.2.1]) h2.2.2.2).2
theorem Doc.at_nm8 (hw : D.wf) (ha : D.ao) {i : Nat} (hi : i < D.n) {t : Nat} (ht : t < D.na i) : ∃ k, k < 8 ∧ D.nm (i + 1 + t) = nI k := by
  have h2 := (D.at_iff hw ha hi (i + 1 + t)).mpr ⟨by omega, by omega⟩
  have hn := D.ax_lt 11 i _ h2
  simp [Doc.ax] at h2
  rcases D.nm_of hw hn with ⟨h, -⟩ | ⟨-, h⟩
  · rw [h2.2.2.2] at h; exact absurd h (by decide)
  · exact h
/-- a spot more in the order -/
def roN (c : tc_C) (i v : Nat) : tc_C := tc_F (tc_I (tc_I c 164 (upd (c.1 164) i (nI v))) 165 (upd (c.1 165) v (nI i))) 155 11 (nI (i + 1))
theorem ro_af (i v : Nat) : Af c (roN c i v) := ((Af.I _ (by omega) (by omega)).trans (Af.I _ (by omega) (by omega))).trans (Af.F _)
theorem ro_166 (i v : Nat) : (roN c i v).1 166 = c.1 166 := by
  unfold roN
  rw [tc_F1, tc_I1, tc_un _ _ (by decide), tc_I1, tc_un _ _ (by decide)]
theorem ro_add (hw : D.wf) (h : RO c D i) (hi : i < D.n) : RO (roN c i (D.ord i)) D (i + 1) := by
  have hn := D.n_le hw
  have oi := D.ord_lt hw hi
  obtain ⟨o1, o2, o3, o4⟩ := h
  refine ⟨?_, fun j hj => ?_, fun j hj => ?_, fun v hv hz => ?_⟩
  · unfold roN; rw [tc_F3, tc_us, tc_us]
  · unfold roN
    rw [tc_F1, tc_I1, tc_un _ _ (by decide), tc_I1, tc_us]
    unfold upd
    by_cases e : j = i
    · rw [if_pos e, e]
    · rw [if_neg e]; exact o2 j (by omega)
  · unfold roN
    rw [tc_F1, tc_I1, tc_us]
    unfold upd
    by_cases e : j = i
    · rw [e, if_pos rfl]
    · rw [if_neg (fun w => e (D.ord_inj hw (by omega) hi w))]; exact o3 j (by omega)
  · unfold roN
    rw [tc_F1, tc_I1, tc_us]
    unfold upd
    rw [if_neg (fun w => hz i (by omega) w.symm)]
    exact o4 v hv (fun j hj => hz j (by omega))
/-- an element's attributes, by their names -/
theorem att_loop (hM : tc_Mod S z) (hw : D.wf) (ha : D.ao) (hA : ∀ x, Af c x → Ans S x D) (hi : i < D.n) (h : RO c D (i + 1)) (w0 : Int32) :
    ∃ c', tq_loop (f_X11_arrange_b81 155 w0 (nI (D.ord i))) tq_N (0, tc_mk S c) = some (tc_mk S c') ∧ RO c' D (i + 1 + D.na i) ∧ Af c c' ∧ c'.1 166 = c.1 166 := by
  have hn := D.n_le hw
  have hnan : D.na i = 0 ∨ i + D.na i < D.n := by
    rcases Nat.eq_zero_or_pos (D.na i) with e | e
    · exact .inl e
    · have := (D.at_iff hw ha hi (i + D.na i)).mpr ⟨by omega, by omega⟩
      exact .inr (D.ax_lt 11 i _ this)
  have his : ∀ x, tq_is (tc_mk S x) 155 11 = some () := fun x => by simp (maxSteps := 3000000) (disch := omega) only [Option.bind_some, tc_bs, tq_let, tc_I1, tc_I2, tc_J1, tc_J2, tc_J3, tc_F1, tc_F2, tc_F3, tc_F4, tc_G1, tc_G2, tc_G3, tc_G4, tc_G5, tc_us, tc_un, s_one, s_holds, s_J13_bitCount, bz_bI, hM.f]
  obtain ⟨⟨t, c'⟩, v1, v2, v3, v4, v5, v6, v7⟩ := tc_run (B := f_X11_arrange_b81 155 w0 (nI (D.ord i))) 8 (fun w (x : Nat × tc_C) => (nI w, tc_mk S x.2)) (fun w x => x.1 ≤ D.na i ∧ RO x.2 D (i + 1 + x.1) ∧ Af c x.2 ∧ x.2.1 166 = c.1 166 ∧ (∀ s k, s < x.1 → D.nm (i + 1 + s) = nI k → k < 8 → k < w) ∧ (∀ s k, x.1 ≤ s → s < D.na i → D.nm (i + 1 + s) = nI k → k < 8 → w ≤ k)) (fun x => tc_mk S x.2) (by omega) (fun w x hw8 hx => by
    obtain ⟨t, x⟩ := x
    obtain ⟨x1, x2, x3, x4, x5, x6⟩ := hx
    dsimp only at x1 x2 x3 x4 x5 x6 ⊢
    have hAx := hA x x3
    by_cases q : t < D.na i ∧ D.nm (i + 1 + t) = nI w
    · have hax := (D.at_iff hw ha hi (i + 1 + t)).mpr ⟨by omega, by omega⟩
      have hl := D.ax_lt 11 i _ hax
      have ol := D.ord_lt hw hl
      have hof := hAx.1 i (i + 1 + t) w hi hax q.2 hw8
      have o1 := x2.1
      refine ⟨(t + 1, roN x (i + 1 + t) (D.ord (i + 1 + t))), ?_, by dsimp only; omega, ro_add hw x2 hl, x3.trans (ro_af _ _), (ro_166 _ _).trans x4, fun s k hs hk hk8 => ?_, fun s k hs hs2 hk hk8 => ?_⟩
      · dsimp only [f_X11_arrange_b81]
        rw [if_neg (show ¬ nI w ≥ 8 from nI_ge hw8 (by decide)), his, Option.bind_some, hof, Option.bind_some, if_neg (nI_nm1 (by omega))]
        simp (maxSteps := 3000000) (disch := omega) only [Option.bind_some, tc_bs, tq_let, tc_I1, tc_I2, tc_J1, tc_J2, tc_J3, tc_F1, tc_F2, tc_F3, tc_F4, tc_G1, tc_G2, tc_G3, tc_G4, tc_G5, tc_us, tc_un, s_one, s_holds, s_J13_bitCount, bz_bI, hM.f, o1, nI_1]
        rfl
      · by_cases e : s = t
        · rw [e, q.2] at hk
          have := (nI_eq (by omega) (by omega)).mp hk; omega
        · have := x5 s k (by dsimp only at hs; omega) hk hk8; omega
      · dsimp only at hs
        obtain ⟨k1, l1, a1, a2, a3, a4⟩ := D.at_nm hw ha hi (show t < s by omega) hs2
        rw [q.2] at a3
        rw [hk] at a4
        have e1 := (nI_eq (by omega) (by omega)).mp a3
        have e2 := (nI_eq (by omega) (by omega)).mp a4
        omega
    · have hno : f_X11_attributeOf 155 (nI (D.ord i)) (nI w) (tc_mk S x) = some (-1) := hAx.2.1 i w hi hw8 (fun j hj e => by
        have hji := (D.at_iff hw ha hi j).mp hj
        obtain ⟨s, rfl⟩ : ∃ s, j = i + 1 + s := ⟨j - (i + 1), by omega⟩
        rcases Nat.lt_or_ge s t with r | r
        · have := x5 s w r e hw8; omega
        · have hsn : s < D.na i := by omega
          have htn : t < D.na i := by omega
          obtain ⟨k, hk, hk2⟩ := D.at_nm8 hw ha hi htn
          have h1 := x6 t k (Nat.le_refl _) htn hk2 hk
          by_cases e2 : s = t
          · subst e2; exact q ⟨hsn, e⟩
          · obtain ⟨k1, l1, a1, a2, a3, a4⟩ := D.at_nm hw ha hi (show t < s by omega) hsn
            rw [hk2] at a3
            rw [e] at a4
            have e1 := (nI_eq (by omega) (by omega)).mp a3
            have e2 := (nI_eq (by omega) (by omega)).mp a4
            omega)
      refine ⟨(t, x), ?_, x1, x2, x3, x4, fun s k hs hk hk8 => by have := x5 s k hs hk hk8; omega, fun s k hs hs2 hk hk8 => ?_⟩
      · dsimp only [f_X11_arrange_b81]
        rw [if_neg (show ¬ nI w ≥ 8 from nI_ge hw8 (by decide)), his, Option.bind_some, hno, Option.bind_some, if_pos rfl, Option.bind_some]
        simp only [tq_let, nI_1]
      · have h1 := x6 s k hs hs2 hk hk8
        dsimp only at hs
        rcases Nat.lt_or_ge w k with r | r
        · omega
        · exfalso
          have : k = w := by omega
          subst this
          have htn : t < D.na i := by omega
          by_cases e2 : s = t
          · subst e2; exact q ⟨htn, hk⟩
          · obtain ⟨k', hk', hk2⟩ := D.at_nm8 hw ha hi htn
            have h3 := x6 t k' (Nat.le_refl _) htn hk2 hk'
            obtain ⟨k1, l1, a1, a2, a3, a4⟩ := D.at_nm hw ha hi (show t < s by omega) hs2
            rw [hk2] at a3
            rw [hk] at a4
            have e1 := (nI_eq (by omega) (by omega)).mp a3
            have e2 := (nI_eq (by omega) (by omega)).mp a4
            omega) (fun x hx => by
    dsimp only [f_X11_arrange_b81]
    rw [if_pos (show nI 8 ≥ 8 by decide)]) (x := (0, c)) ⟨Nat.zero_le _, h, Af.refl c, rfl, fun s k hs => by dsimp only at hs; omega, fun s k _ _ _ _ => Nat.zero_le _⟩
  dsimp only at v1 v2 v3 v4 v5 v6 v7
  have ht : t = D.na i := by
    rcases Nat.lt_or_ge t (D.na i) with q | q
    · obtain ⟨k, hk, hk2⟩ := D.at_nm8 hw ha hi q
      have := v7 t k (Nat.le_refl _) q hk2 hk; omega
    · omega
  subst ht
  exact ⟨c', v1, v3, v4, v5⟩
/-- the stack: what waits, the first on top -/
def Stk (f : Nat → Int32) (D : Doc) (i : Nat) : Prop := ∀ s, D.wt i s = true → f (fb_ct (D.wt i) 60 - 1 - fb_ct (D.wt i) s) = nI (D.ord s)
theorem Doc.wt_of {i s : Nat} (h : D.wt i s = true) : s < D.n ∧ i ≤ s ∧ D.kd s ≠ 2 ∧ (s = 0 ∨ D.up s < i) := of_decide_eq_true h
/-- behind a spot with its attributes: its children wait as well -/
theorem Doc.wt_next (hw : D.wf) (ha : D.ao) {i : Nat} (hi : i < D.n) (hk : D.kd i ≠ 2) (hu : i = 0 ∨ D.up i < i) (s : Nat) : D.wt (i + 1 + D.na i) s = true ↔ (D.ax 1 i s = true ∨ (D.wt i s = true ∧ s ≠ i)) := by
  have hno : ∀ s, s < D.n → 0 < s → D.up s = i → D.kd s ≠ 2 → i + 1 + D.na i ≤ s := fun s h1 h2 h3 h4 => by
    have hgt := D.up_lt hw h2 h1
    rcases Nat.lt_or_ge s (i + 1 + D.na i) with q | q
    · have := (D.at_iff hw ha hi s).mpr ⟨by omega, by omega⟩
      simp [Doc.ax] at this
      exact absurd this.2.2.2 h4
    · exact q
  constructor
  · intro h
    obtain ⟨h1, h2, h3, h4⟩ := Doc.wt_of h
    have h0 : 0 < s := by omega
    rcases h4 with h4 | h4
    · omega
    · by_cases e : D.up s = i
      · left; simp [Doc.ax, h1, h0, e, h3]
      · right
        refine ⟨decide_eq_true ⟨h1, by omega, h3, .inr ?_⟩, by omega⟩
        rcases Nat.lt_or_ge (D.up s) i with q | q
        · exact q
        · exfalso
          -- the parent would be an attribute
          have := (D.at_iff hw ha hi (D.up s)).mpr ⟨by omega, by omega⟩
          simp [Doc.ax] at this
          have := D.kd_up hw h0 h1
          simp_all
  · rintro (h | ⟨h, hne⟩)
    · have hs := D.ax_lt 1 i s h
      simp [Doc.ax] at h
      have := hno s hs h.2.1 h.2.2.1 h.2.2.2
      exact decide_eq_true ⟨hs, this, h.2.2.2, .inr (by omega)⟩
    · obtain ⟨h1, h2, h3, h4⟩ := Doc.wt_of h
      refine decide_eq_true ⟨h1, ?_, h3, ?_⟩
      · rcases Nat.lt_or_ge s (i + 1 + D.na i) with q | q
        · have := (D.at_iff hw ha hi s).mpr ⟨by omega, by omega⟩
          simp [Doc.ax] at this
          exact absurd this.2.2.2 h3
        · exact q
      · rcases h4 with h4 | h4
        · exact .inl h4
        · exact .inr (by omega)
/-- what waited before lies behind all that is below -/
theorem Doc.wt_far (hw : D.wf) {i s j : Nat} (hi : i < D.n) (h : D.wt i s = true) (hne : s ≠ i) (hj : D.ax 1 i j = true) : j < s := by
  obtain ⟨h1, h2, h3, h4⟩ := Doc.wt_of h
  have hjn := D.ax_lt 1 i j hj
  simp [Doc.ax] at hj
  have hsp := D.up_sp hw hj.2.1 hjn
  rw [hj.2.2.1] at hsp
  rcases Nat.lt_or_ge j s with q | q
  · exact q
  · exfalso
    have := (D.en_up hw (show i < s by omega) h1).mp (by omega)
    omega
theorem ct_or3 {p q : Nat → Bool} (n : Nat) (h : ∀ k, ¬ (p k = true ∧ q k = true)) : fb_ct (fun k => p k || q k) n = fb_ct p n + fb_ct q n := fb_ct_or (fun k _ => h k)
theorem ct_del {p : Nat → Bool} {i : Nat} (h : p i = true) : ∀ n, fb_ct (fun k => p k && decide (k ≠ i)) n = fb_ct p n - (if i < n then 1 else 0)
  | 0 => by simp [fb_ct]
  | n + 1 => by
    have ih := ct_del h n
    have hpos : i < n → 0 < fb_ct p n := fun hn => fb_ct_pos.mpr ⟨i, hn, h⟩
    rw [fb_ct_succ, fb_ct_succ, ih]
    by_cases e : n = i
    · subst e; simp [h]
    · by_cases hn : i < n
      · have := hpos hn
        cases p n <;> simp [e, hn, show i < n + 1 by omega] <;> omega
      · cases p n <;> simp [e, hn, show ¬ i < n + 1 by omega]
/-- how the waiting change, counted -/
theorem Doc.wt_ct (hw : D.wf) (ha : D.ao) {i : Nat} (hi : i < D.n) (hk : D.kd i ≠ 2) (hu : i = 0 ∨ D.up i < i) (n : Nat) : fb_ct (D.wt (i + 1 + D.na i)) n = fb_ct (D.ax 1 i) n + (fb_ct (D.wt i) n - (if i < n then 1 else 0)) := by
  have hwi : D.wt i i = true := decide_eq_true ⟨hi, Nat.le_refl _, hk, hu⟩
  rw [← ct_del hwi n, ← ct_or3 n (p := D.ax 1 i) (q := fun k => D.wt i k && decide (k ≠ i))]
  · refine fb_ct_cong fun s _ => ?_
    apply Bool.ext_iff
    rw [D.wt_next hw ha hi hk hu s, Bool.or_eq_true, Bool.and_eq_true, decide_eq_true_eq]
  · rintro s ⟨h1, h2⟩
    rw [Bool.and_eq_true, decide_eq_true_eq] at h2
    have := D.wt_far hw hi h2.1 h2.2 h1
    omega
theorem kids_loop (hM : tc_Mod S z) (hw : D.wf) (hA : ∀ x, Af c x → Ans S x D) (hi : i < D.n) {T : Nat} (hT : T + fb_ct (D.ax 1 i) 64 ≤ 64) :
    ∃ f, tq_loop (f_X11_arrange_b147 155 (nI (D.ord i))) tq_N (nI T, nI (fb_ct (D.ax 1 i) 64) + (-1), tc_mk S c) = some (nI (T + fb_ct (D.ax 1 i) 64), tc_mk S (tc_I c 166 f)) ∧ (∀ t, t < T → f t = c.1 166 t) ∧ ∀ s, D.ax 1 i s = true → f (T + (fb_ct (D.ax 1 i) 64 - 1 - fb_ct (D.ax 1 i) s)) = nI (D.ord s) := by
  have hn := D.n_le hw
  have his : ∀ x, tq_is (tc_mk S x) 155 11 = some () := fun x => by simp (maxSteps := 3000000) (disch := omega) only [Option.bind_some, tc_bs, tq_let, tc_I1, tc_I2, tc_J1, tc_J2, tc_J3, tc_F1, tc_F2, tc_F3, tc_F4, tc_G1, tc_G2, tc_G3, tc_G4, tc_G5, tc_us, tc_un, s_one, s_holds, s_J13_bitCount, bz_bI, hM.f]
  have hg14 : ∀ x, tq_gr (tc_mk S x) 155 11 14 = some 166 := fun x => by simp (maxSteps := 3000000) (disch := omega) only [Option.bind_some, tc_bs, tq_let, tc_I1, tc_I2, tc_J1, tc_J2, tc_J3, tc_F1, tc_F2, tc_F3, tc_F4, tc_G1, tc_G2, tc_G3, tc_G4, tc_G5, tc_us, tc_un, s_one, s_holds, s_J13_bitCount, bz_bI, hM.f]
  generalize hK : fb_ct (D.ax 1 i) 64 = K at *
  obtain ⟨f, v1, v2, v3⟩ := tc_run (B := f_X11_arrange_b147 155 (nI (D.ord i))) K (fun k f => (nI (T + k), nI (K - k) + (-1), tc_mk S (tc_I c 166 f))) (fun k f => (∀ t, t < T → f t = c.1 166 t) ∧ ∀ s, D.ax 1 i s = true → K - k ≤ fb_ct (D.ax 1 i) s → f (T + (K - 1 - fb_ct (D.ax 1 i) s)) = nI (D.ord s)) (fun f => (nI (T + K), tc_mk S (tc_I c 166 f))) (by omega) (fun k f hk hf => by
    obtain ⟨f1, f2⟩ := hf
    obtain ⟨s, s1, s2, s3⟩ := fb_ct_kth (show K - (k + 1) < fb_ct (D.ax 1 i) 64 by omega)
    have hsn := D.ax_lt 1 i s s2
    have hch := (hA _ (Af.I (c := c) (a := 166) f (by omega) (by omega))).2.2.2 i (nI (K - (k + 1))) hi
    rw [pk_inn s1 s2 s3, D.nd_in hw hsn] at hch
    have e1 : nI (K - k) + (-1) = nI (K - (k + 1)) := by rw [show K - k = (K - (k + 1)) + 1 by omega, pk_m1]
    have hst : tq_si (tc_mk S (tc_I c 166 f)) 166 (nI (T + k)) (nI (D.ord s)) = some (tc_mk S (tc_I c 166 (upd f (T + k) (nI (D.ord s))))) := by
      simp (maxSteps := 3000000) (disch := omega) only [Option.bind_some, tc_bs, tq_let, tc_I1, tc_I2, tc_J1, tc_J2, tc_J3, tc_F1, tc_F2, tc_F3, tc_F4, tc_G1, tc_G2, tc_G3, tc_G4, tc_G5, tc_us, tc_un, s_one, s_holds, s_J13_bitCount, bz_bI, hM.f, show T + k < 64 from by omega]
      rw [tc_I_I]
    refine ⟨upd f (T + k) (nI (D.ord s)), ?_, fun t ht => ?_, fun s' h1 h2 => ?_⟩
    · dsimp only [f_X11_arrange_b147]
      rw [e1, if_neg (nI_pos (by omega))]
      simp only [hg14, his, hch, hst, Option.bind_some, tq_let, nI_1]
      rfl
    · unfold upd; rw [if_neg (by omega)]; exact f1 t ht
    · unfold upd
      have hlt : fb_ct (D.ax 1 i) s' < K := by
        have := fb_ct_mono (D.ax 1 i) (show s' + 1 ≤ 64 by have := D.ax_lt 1 i s' h1; omega)
        rw [fb_ct_succ, if_pos h1] at this; omega
      by_cases e : fb_ct (D.ax 1 i) s' = K - (k + 1)
      · have : s' = s := fb_ct_kth_one h1 s2 (by omega)
        rw [if_pos (by omega), this]
      · rw [if_neg (by omega)]
        exact f2 s' h1 (by omega)) (fun f hf => by
    dsimp only [f_X11_arrange_b147]
    rw [Nat.sub_self, if_pos (show nI 0 + (-1) < 0 by decide)]) (x := c.1 166) ⟨fun t _ => rfl, fun s h1 h2 => by
      exfalso
      have := fb_ct_mono (D.ax 1 i) (show s + 1 ≤ 64 by have := D.ax_lt 1 i s h1; omega)
      rw [fb_ct_succ, if_pos h1] at this; omega⟩
  rw [tc_I_self, Nat.add_zero, Nat.sub_zero] at v1
  exact ⟨f, v1, v2, fun s hs => v3 s hs (by omega)⟩
/-- the order of the document is found -/
theorem s_X11_arrange (hM : tc_Mod S z) (hw : D.wf) (ha : D.ao) (hA : ∀ x, Af c x → Ans S x D) : ∃ c', f_X11_arrange 155 (tc_mk S c) = some (tc_mk S c') ∧ ROrd c' D ∧ Af c c' := by
  have hn := D.n_le hw
  have h0n := D.n_pos hw
  have his : ∀ x, tq_is (tc_mk S x) 155 11 = some () := fun x => by simp (maxSteps := 3000000) (disch := omega) only [Option.bind_some, tc_bs, tq_let, tc_I1, tc_I2, tc_J1, tc_J2, tc_J3, tc_F1, tc_F2, tc_F3, tc_F4, tc_G1, tc_G2, tc_G3, tc_G4, tc_G5, tc_us, tc_un, s_one, s_holds, s_J13_bitCount, bz_bI, hM.f]
  -- the start
  let c1 := tc_I (tc_F c 155 11 0) 166 (upd (c.1 166) 0 0)
  have a1 : Af c c1 := (Af.F _).trans (Af.I _ (by omega) (by omega))
  obtain ⟨g, p1, p2⟩ := tc_run (B := f_X11_arrange_b16 155 1) 60 (fun k g => (nI k, tc_mk S (tc_I c1 165 g))) (fun k g => ∀ v, v < k → g v = -1) (fun g => tc_mk S (tc_I c1 165 g)) (by omega) (fun k g hk hg => by
    have hst : tq_si (tc_mk S (tc_I c1 165 g)) 165 (nI k) (-1) = some (tc_mk S (tc_I c1 165 (upd g k (-1)))) := by
      simp (maxSteps := 3000000) (disch := omega) only [Option.bind_some, tc_bs, tq_let, tc_I1, tc_I2, tc_J1, tc_J2, tc_J3, tc_F1, tc_F2, tc_F3, tc_F4, tc_G1, tc_G2, tc_G3, tc_G4, tc_G5, tc_us, tc_un, s_one, s_holds, s_J13_bitCount, bz_bI, hM.f]
      rw [tc_I_I]
    have hg13 : tq_gr (tc_mk S (tc_I c1 165 g)) 155 11 13 = some 165 := by simp (maxSteps := 3000000) (disch := omega) only [Option.bind_some, tc_bs, tq_let, tc_I1, tc_I2, tc_J1, tc_J2, tc_J3, tc_F1, tc_F2, tc_F3, tc_F4, tc_G1, tc_G2, tc_G3, tc_G4, tc_G5, tc_us, tc_un, s_one, s_holds, s_J13_bitCount, bz_bI, hM.f]
    refine ⟨upd g k (-1), ?_, fun v hv => ?_⟩
    · dsimp only [f_X11_arrange_b16]
      rw [if_neg (show ¬ nI k ≥ 60 from nI_ge hk (by decide))]
      simp only [hg13, hst, Option.bind_some, tq_let, nI_1]
    · unfold upd
      by_cases e : v = k
      · rw [if_pos e]
      · rw [if_neg e]; exact hg v (by omega)) (fun g hg => by
    dsimp only [f_X11_arrange_b16]
    rw [if_pos (show nI 60 ≥ 60 by decide)]) (x := c1.1 165) (fun v hv => by omega)
  rw [tc_I_self] at p1
  let c2 := tc_I c1 165 g
  have a2 : Af c c2 := a1.trans (Af.I _ (by omega) (by omega))
  have r2 : RO c2 D 0 := by
    refine ⟨?_, fun j hj => by omega, fun j hj => by omega, fun v hv _ => ?_⟩
    · show (tc_F c 155 11 0).2.2.1 155 11 = _
      rw [tc_F3, tc_us, tc_us]; rfl
    · show (tc_I c1 165 g).1 165 v = _
      rw [tc_I_at]; exact p2 v hv
  have w0 : D.wt 0 0 = true := decide_eq_true ⟨h0n, Nat.le_refl _, by rw [D.kd_0 hw]; decide, .inl rfl⟩
  have w0' : ∀ s, D.wt 0 s = true → s = 0 := fun s h => by
    obtain ⟨-, -, -, h4⟩ := Doc.wt_of h
    rcases h4 with h4 | h4
    · exact h4
    · omega
  have ct0 : ∀ n, 0 < n → fb_ct (D.wt 0) n = 1 := fun n hn => by
    have h1 : fb_ct (D.wt 0) n = fb_ct (fun k => decide (k = 0)) n := fb_ct_cong fun k _ => by
      apply Bool.ext_iff
      rw [decide_eq_true_eq]
      exact ⟨w0' k, fun h => by rw [h]; exact w0⟩
    rw [h1]
    have : ∀ n, 0 < n → fb_ct (fun k => decide (k = 0)) n = 1 := by
      intro n
      induction n with
      | zero => intro h; omega
      | succ n ih =>
        intro _
        rw [fb_ct_succ]
        rcases Nat.eq_zero_or_pos n with e | e
        · subst e; rfl
        · rw [ih e]; simp; omega
    exact this n hn
  have s2 : Stk (c2.1 166) D 0 := fun s hs => by
    rw [w0' s hs, ct0 60 (by decide)]
    show (tc_I c1 165 g).1 166 0 = _
    rw [tc_I1, tc_un _ _ (by decide)]
    show (tc_I (tc_F c 155 11 0) 166 (upd (c.1 166) 0 0)).1 166 0 = _
    rw [tc_I_at, D.ord_0 hw]
    show upd (c.1 166) 0 0 0 = _
    simp [upd]; rfl
  -- the loop
  obtain ⟨e, q1, c3, rfl, q2, q3⟩ := tc_gh (B := f_X11_arrange_b35 155) (fun k st => ∃ i x, st = (nI (fb_ct (D.wt i) 60), tc_mk S x) ∧ i ≤ D.n ∧ RO x D i ∧ Stk (x.1 166) D i ∧ Af c x ∧ (i < D.n → D.wt i i = true) ∧ k = D.n - i) (fun e => ∃ c3, e = tc_mk S c3 ∧ ROrd c3 D ∧ Af c c3) (n := D.n) (s := (1, tc_mk S c2)) (fun k st hst => by
    obtain ⟨i, x, rfl, hi, r1, r3, r4, r5, rfl⟩ := hst
    have hctle := fb_ct_le (D.wt i) 60
    by_cases hin : i < D.n
    · left
      have hwi := r5 hin
      obtain ⟨-, -, hk2, hu⟩ := Doc.wt_of hwi
      have oi := D.ord_lt hw hin
      have hpos : 0 < fb_ct (D.wt i) 60 := fb_ct_pos.mpr ⟨i, by omega, hwi⟩
      have hb0 : fb_ct (D.wt i) i = 0 := fb_ct_zero.mpr (fun k hk => by
        cases q : D.wt i k with
        | false => rfl
        | true => have := (Doc.wt_of q).2.1; omega)
      have htop := r3 i hwi
      rw [hb0, Nat.sub_zero] at htop
      generalize hC : fb_ct (D.wt i) 60 = C at *
      have e1 : nI C + (-1) = nI (C - 1) := pk_m1' hpos
      have o1 := r1.1
      have hg14 : tq_gr (tc_mk S x) 155 11 14 = some 166 := by simp (maxSteps := 3000000) (disch := omega) only [Option.bind_some, tc_bs, tq_let, tc_I1, tc_I2, tc_J1, tc_J2, tc_J3, tc_F1, tc_F2, tc_F3, tc_F4, tc_G1, tc_G2, tc_G3, tc_G4, tc_G5, tc_us, tc_un, s_one, s_holds, s_J13_bitCount, bz_bI, hM.f]
      have hrd : tq_ai (tc_mk S x) 166 (nI (C - 1)) = some (nI (D.ord i)) := by
        simp (maxSteps := 3000000) (disch := omega) only [Option.bind_some, tc_bs, tq_let, tc_I1, tc_I2, tc_J1, tc_J2, tc_J3, tc_F1, tc_F2, tc_F3, tc_F4, tc_G1, tc_G2, tc_G3, tc_G4, tc_G5, tc_us, tc_un, s_one, s_holds, s_J13_bitCount, bz_bI, hM.f, show C - 1 < 64 from by omega]
        rw [htop]
      -- the spot itself and its attributes
      have rx := ro_add hw r1 hin
      have hAf1 : Af c (roN x i (D.ord i)) := r4.trans (ro_af _ _)
      obtain ⟨y, y1, y2, y3, y4⟩ := att_loop hM hw ha (fun u hu => hA u (hAf1.trans hu)) hin rx (nI (C - 1))
      -- its children
      have hKle : fb_ct (D.ax 1 i) 64 ≤ 60 := by
        rw [D.ax_cut hw]
        have := fb_ct_le (D.ax 1 i) D.n; omega
      have hsum := D.wt_ct hw ha hin hk2 hu 60
      rw [hC, if_pos (by omega), show fb_ct (D.ax 1 i) 60 = fb_ct (D.ax 1 i) 64 from by
        rw [ct_cut (n := D.n) 64 (fun j hj => by
          cases q : D.ax 1 i j with
          | false => rfl
          | true => have := D.ax_lt 1 i j q; omega) (by omega), ct_cut (n := D.n) 60 (fun j hj => by
          cases q : D.ax 1 i j with
          | false => rfl
          | true => have := D.ax_lt 1 i j q; omega) (by omega)]] at hsum
      have hsle := fb_ct_le (D.wt (i + 1 + D.na i)) 60
      obtain ⟨f, f1, f2, f3⟩ := kids_loop (c := y) hM hw (fun u hu => hA u ((hAf1.trans y3).trans hu)) hin (T := C - 1) (by omega)
      have hcc := (hA y (hAf1.trans y3)).2.2.1 i hin
      refine ⟨(nI (fb_ct (D.wt (i + 1 + D.na i)) 60), tc_mk S (tc_I y 166 f)), D.n - (i + 1 + D.na i), ?_, ⟨i + 1 + D.na i, tc_I y 166 f, rfl, ?_, ?_, ?_, (hAf1.trans y3).trans (Af.I _ (by omega) (by omega)), ?_, rfl⟩, by omega⟩
      · dsimp only [f_X11_arrange_b35]
        rw [if_neg (nI_nle hpos (by omega))]
        simp only [tq_let, e1, hg14, hrd, Option.bind_some]
        have hcode : ((tq_gr (tc_mk S x) 155 11 12).bind fun k11 => (tq_gi (tc_mk S x) 155 11 11).bind fun x12 => (tq_si (tc_mk S x) k11 x12 (nI (D.ord i))).bind fun w13 => (tq_gr w13 155 11 13).bind fun k14 => (tq_gi w13 155 11 11).bind fun x15 => (tq_si w13 k14 (nI (D.ord i)) x15).bind fun w16 => (tq_gi w16 155 11 11).bind fun x17 => (tq_pf w16 155 11 11 (.int (x17 + 1)))) = some (tc_mk S (roN x i (D.ord i))) := by
          simp (maxSteps := 3000000) (disch := omega) only [Option.bind_some, tc_bs, tq_let, tc_I1, tc_I2, tc_J1, tc_J2, tc_J3, tc_F1, tc_F2, tc_F3, tc_F4, tc_G1, tc_G2, tc_G3, tc_G4, tc_G5, tc_us, tc_un, s_one, s_holds, s_J13_bitCount, bz_bI, hM.f, o1, nI_1]
          rfl
        have key : ∀ F : tq_H → Option ((Int32 × tq_H) ⊕ tq_H), ((tq_gr (tc_mk S x) 155 11 12).bind fun k11 => (tq_gi (tc_mk S x) 155 11 11).bind fun x12 => (tq_si (tc_mk S x) k11 x12 (nI (D.ord i))).bind fun w13 => (tq_gr w13 155 11 13).bind fun k14 => (tq_gi w13 155 11 11).bind fun x15 => (tq_si w13 k14 (nI (D.ord i)) x15).bind fun w16 => (tq_gi w16 155 11 11).bind fun x17 => (tq_pf w16 155 11 11 (.int (x17 + 1))).bind F) = F (tc_mk S (roN x i (D.ord i))) := by
          intro F
          simp (maxSteps := 3000000) (disch := omega) only [Option.bind_some, tc_bs, tq_let, tc_I1, tc_I2, tc_J1, tc_J2, tc_J3, tc_F1, tc_F2, tc_F3, tc_F4, tc_G1, tc_G2, tc_G3, tc_G4, tc_G5, tc_us, tc_un, s_one, s_holds, s_J13_bitCount, bz_bI, hM.f, o1, nI_1]
          rfl
        rw [key]
        rw [show ((0 : Int32), tc_mk S (roN x i (D.ord i))) = (0, tc_mk S (roN x i (D.ord i))) from rfl, y1, Option.bind_some, his, Option.bind_some, hcc, Option.bind_some]
        have e2 : nI (fb_ct (D.ax 1 i) 64) - 1 = nI (fb_ct (D.ax 1 i) 64) + (-1) := Int32.sub_eq_add_neg _ _
        rw [e2, f1, Option.bind_some]
        dsimp only
        rw [show C - 1 + fb_ct (D.ax 1 i) 64 = fb_ct (D.wt (i + 1 + D.na i)) 60 by omega]
      · rcases Nat.eq_zero_or_pos (D.na i) with q | q
        · omega
        · have := (D.at_iff hw ha hin (i + D.na i)).mpr ⟨by omega, by omega⟩
          have := D.ax_lt 11 i _ this; omega
      · obtain ⟨z1, z2, z3, z4⟩ := y2
        refine ⟨z1, ?_, ?_, ?_⟩ <;> rw [tc_I1, tc_un _ _ (by decide)] <;> assumption
      · intro s hs
        rw [tc_I_at]
        have hs2 := (D.wt_next hw ha hin hk2 hu s).mp hs
        have hsn := (Doc.wt_of hs).1
        have hct := D.wt_ct hw ha hin hk2 hu s
        rcases hs2 with h | ⟨h, hne⟩
        · -- a child: no old one stands before it
          have hz : fb_ct (D.wt i) s - (if i < s then 1 else 0) = 0 := by
            have hd := ct_del hwi s
            rw [← hd]
            refine fb_ct_zero.mpr (fun k hk => ?_)
            cases q : (D.wt i k && decide (k ≠ i)) with
            | false => rfl
            | true =>
              rw [Bool.and_eq_true, decide_eq_true_eq] at q
              have := D.wt_far hw hin q.1 q.2 h; omega
          rw [hz, Nat.add_zero] at hct
          have hlt : fb_ct (D.ax 1 i) s < fb_ct (D.ax 1 i) 64 := by
            have := fb_ct_mono (D.ax 1 i) (show s + 1 ≤ 64 by omega)
            rw [fb_ct_succ, if_pos h] at this; omega
          have h9 := f3 s h
          rw [← h9]
          exact congrArg f (by omega)
        · -- an old one: all children stand before it
          have hall : fb_ct (D.ax 1 i) s = fb_ct (D.ax 1 i) 64 := by
            have h1 := fb_ct_mono (D.ax 1 i) (show s ≤ 64 by omega)
            have h2 : fb_ct (D.ax 1 i) 64 = fb_ct (D.ax 1 i) s := by
              obtain ⟨d, hd⟩ : ∃ d, 64 = s + d := ⟨64 - s, by omega⟩
              rw [hd, fb_ct_split]
              have : fb_ct (fun k => D.ax 1 i (s + k)) d = 0 := fb_ct_zero.mpr (fun k hk => by
                cases q : D.ax 1 i (s + k) with
                | false => rfl
                | true => have := D.wt_far hw hin h hne q; omega)
              omega
            exact h2.symm
          have his2 : i < s := by have := (Doc.wt_of h).2.1; omega
          rw [if_pos his2, hall] at hct
          have hls : fb_ct (D.wt i) s < C := by
            have := fb_ct_mono (D.wt i) (show s + 1 ≤ 60 by omega)
            rw [fb_ct_succ, if_pos h, hC] at this; omega
          have hl1 : 0 < fb_ct (D.wt i) s := fb_ct_pos.mpr ⟨i, his2, hwi⟩
          have hidx : fb_ct (D.wt (i + 1 + D.na i)) 60 - 1 - fb_ct (D.wt (i + 1 + D.na i)) s = C - 1 - fb_ct (D.wt i) s := by omega
          rw [hidx, f2 _ (by omega), y4, ro_166]
          have h9 := r3 s h
          rw [hC] at h9
          exact h9
      · intro hlt
        have hkd : D.kd (i + 1 + D.na i) ≠ 2 := fun w => by
          -- its parent is i or lies before i; an attribute behind others of its parent
          have hup := D.up_lt hw (show 0 < i + 1 + D.na i by omega) hlt
          have hpe := D.kd_up hw (show 0 < i + 1 + D.na i by omega) hlt
          by_cases e : D.up (i + 1 + D.na i) = i
          · have := (D.at_iff hw ha hin (i + 1 + D.na i)).mp (by simp [Doc.ax, hlt, e, w, show 0 < i + 1 + D.na i by omega])
            omega
          · rcases Nat.lt_or_ge (D.up (i + 1 + D.na i)) i with q | q
            · -- then the sibling that holds i stands before it and is no attribute
              have hsp := D.up_sp hw (show 0 < i + 1 + D.na i by omega) hlt
              generalize hup2 : D.up (i + 1 + D.na i) = u at *
              obtain ⟨s, s1, s2, s3, s4, s5⟩ := D.kid_of hw (show u < D.n by omega) i q (by omega)
              obtain ⟨k2, -⟩ := ha s (i + 1 + D.na i) s1 (by omega) hlt (by rw [s2, hup2]) w
              have hl := D.leaf hw s5 (by rw [k2]; decide)
              have : s = i := by omega
              rw [this] at k2; exact hk2 k2
            · have := (D.at_iff hw ha hin (D.up (i + 1 + D.na i))).mpr ⟨by omega, by omega⟩
              simp [Doc.ax] at this
              rw [this.2.2.2] at hpe; exact absurd hpe (by decide)
        refine decide_eq_true ⟨hlt, Nat.le_refl _, hkd, .inr (D.up_lt hw (by omega) hlt)⟩
    · right
      have hii : i = D.n := by omega
      subst hii
      have hz : fb_ct (D.wt D.n) 60 = 0 := fb_ct_zero.mpr (fun k _ => by
        cases q : D.wt D.n k with
        | false => rfl
        | true => have := Doc.wt_of q; omega)
      refine ⟨tc_mk S x, ?_, x, rfl, r1, r4⟩
      dsimp only [f_X11_arrange_b35]
      rw [hz, if_pos (show nI 0 ≤ 0 by decide)]) ⟨0, c2, by rw [ct0 60 (by decide)]; rfl, Nat.zero_le _, r2, s2, a2, fun _ => w0, by omega⟩ (by unfold tq_N; omega)
  refine ⟨c3, ?_, q2, q3⟩
  have b1' : tq_pf (tc_mk S c) 155 11 11 (.int 0) = some (tc_mk S (tc_F c 155 11 0)) := by simp (maxSteps := 3000000) (disch := omega) only [Option.bind_some, tc_bs, tq_let, tc_I1, tc_I2, tc_J1, tc_J2, tc_J3, tc_F1, tc_F2, tc_F3, tc_F4, tc_G1, tc_G2, tc_G3, tc_G4, tc_G5, tc_us, tc_un, s_one, s_holds, s_J13_bitCount, bz_bI, hM.f]
  have b2' : tq_gr (tc_mk S (tc_F c 155 11 0)) 155 11 14 = some 166 := by simp (maxSteps := 3000000) (disch := omega) only [Option.bind_some, tc_bs, tq_let, tc_I1, tc_I2, tc_J1, tc_J2, tc_J3, tc_F1, tc_F2, tc_F3, tc_F4, tc_G1, tc_G2, tc_G3, tc_G4, tc_G5, tc_us, tc_un, s_one, s_holds, s_J13_bitCount, bz_bI, hM.f]
  have b3' : tq_si (tc_mk S (tc_F c 155 11 0)) 166 0 0 = some (tc_mk S c1) := by
    rw [show (tq_si (tc_mk S (tc_F c 155 11 0)) 166 0 0) = tq_si (tc_mk S (tc_F c 155 11 0)) 166 (nI 0) 0 from rfl]
    simp (maxSteps := 3000000) (disch := omega) only [Option.bind_some, tc_bs, tq_let, tc_I1, tc_I2, tc_J1, tc_J2, tc_J3, tc_F1, tc_F2, tc_F3, tc_F4, tc_G1, tc_G2, tc_G3, tc_G4, tc_G5, tc_us, tc_un, s_one, s_holds, s_J13_bitCount, bz_bI, hM.f]
    rfl
  unfold f_X11_arrange
  rw [b1', Option.bind_some, b2', Option.bind_some, b3', Option.bind_some, show ((0 : Int32), tc_mk S c1) = (nI 0, tc_mk S c1) from rfl, p1, Option.bind_some]
  rw [show tc_mk S (tc_I c1 165 g) = tc_mk S c2 from rfl, q1]
  rfl
end ARR
