/-! ===== schemas: types of elements; the class ===== -/
/-- names, final states, rules of attributes, arcs, texts -/
def Sma : Type := (Nat → Int32) × (Nat → Int32) × (Nat → Int32) × (Nat → Int32) × (Nat → Bool)
def Sma.nm (Z : Sma) : Nat → Int32 := Z.1
def Sma.fi (Z : Sma) : Nat → Int32 := Z.2.1
def Sma.ru (Z : Sma) : Nat → Int32 := Z.2.2.1
def Sma.ar (Z : Sma) : Nat → Int32 := Z.2.2.2.1
def Sma.tx (Z : Sma) : Nat → Bool := Z.2.2.2.2
def SC (c : tc_C) (Z : Sma) : Prop := (∀ t, t < 6 → c.1 133 t = Z.nm t) ∧ (∀ t, t < 6 → c.1 135 t = Z.fi t) ∧ (∀ t, t < 48 → c.1 137 t = Z.ru t) ∧ (∀ t, t < 144 → c.1 139 t = Z.ar t) ∧ ∀ t, t < 6 → bt (c.2.2.1 131 8) t = Z.tx t
def SR (c : tc_C) (Z : Sma) : Prop := (∀ t, t < 6 → c.1 183 t = Z.nm t) ∧ (∀ t, t < 6 → c.1 186 t = Z.fi t) ∧ (∀ t, t < 48 → c.1 185 t = Z.ru t) ∧ (∀ t, t < 144 → c.1 187 t = Z.ar t) ∧ ∀ t, t < 6 → c.1 184 t = bI (Z.tx t)
/-- the states behind some states by a type of a set -/
def Sma.nx (Z : Sma) (t : Nat) (s : Int32) (E : Nat → Bool) : Nat → Int32
  | 0 => 0
  | k + 1 => if bt s (k / 6) && E (k % 6) then Z.nx t s E k ||| Z.ar (24 * t + k) else Z.nx t s E k
/-- a set of types as a number -/
def tI (E : Nat → Bool) : Nat → Int32
  | 0 => 0
  | k + 1 => if E k then tI E k ||| nI (2 ^ k) else tI E k
def Doc.ke (D : Doc) (i j : Nat) : Bool := D.ax 1 i j && decide (D.kd j = 0)
/-- the states behind the children among the first spots -/
def Doc.stN (D : Doc) (Z : Sma) (t : Nat) (E : Nat → Nat → Bool) (i : Nat) : Nat → Int32
  | 0 => 1
  | j + 1 => if D.ke i j then Z.nx t (D.stN Z t E i j) (E j) 24 else D.stN Z t E i j
def Doc.hasA (D : Doc) (i a : Nat) : Bool := anyB (fun j => D.ax 11 i j && decide (D.nm j = nI a)) D.n
def Doc.hasT (D : Doc) (i : Nat) : Bool := anyB (fun j => D.ax 1 i j && decide (D.kd j = 1)) D.n
/-- whether the rules of attributes below a name hold -/
def Doc.atts (D : Doc) (Z : Sma) (i t : Nat) : Nat → Bool
  | 0 => true
  | a + 1 => D.atts Z i t a && decide (Z.ru (8 * t + a) ≠ if D.hasA i a then 0 else 2)
def Doc.own (D : Doc) (Z : Sma) (i t : Nat) : Bool := decide (D.kd i = 0) && (decide (Z.nm t = D.nm i) && (D.atts Z i t 8 && (!D.hasT i || Z.tx t)))
def Doc.tyF (D : Doc) (Z : Sma) : Nat → Nat → Nat → Bool
  | 0 => fun _ _ => false
  | f + 1 => fun i t => D.own Z i t && decide (D.stN Z t (D.tyF Z f) i D.n &&& Z.fi t ≠ 0)
def Doc.ty (D : Doc) (Z : Sma) (i : Nat) : Nat → Bool := D.tyF Z (D.n - i) i
section SCH
variable {S : tq_H} {c c' : tc_C} {b e p k d m r z i t : Nat} {D : Doc} {Z : Sma}
theorem bt_tI (E : Nat → Bool) : ∀ k, k ≤ 6 → ∀ j, bt (tI E k) j = (decide (j < k) && E j)
  | 0, _, j => by simp [tI, bt_0]
  | k + 1, h, j => by
    have ih := bt_tI E k (by omega) j
    have hp : ∀ k, k < 6 → 2 ^ k < 2 ^ 32 := by decide
    have e1 : bt (nI (2 ^ k)) j = decide (k = j) := by rw [bt_nI (hp k (by omega)), Nat.testBit_two_pow]
    unfold tI
    by_cases q : j = k
    · subst q
      cases hE : E j with
      | true => rw [if_pos rfl, b_or, e1]; simp
      | false => rw [if_neg (by decide), ih]; simp
    · split
      · rw [b_or, ih, e1]; simp [Ne.symm q, show (j < k + 1) ↔ j < k by omega]
      · rw [ih]; simp [show (j < k + 1) ↔ j < k by omega]
theorem sh1 : ∀ t, t < 8 → (1 : Int32) <<< (nI t &&& 31) = nI (2 ^ t) := by decide +kernel
theorem Doc.stN_cong (D : Doc) (Z : Sma) (t : Nat) {E F : Nat → Nat → Bool} {i : Nat} : ∀ n, (∀ j, j < n → D.ke i j = true → E j = F j) → D.stN Z t E i n = D.stN Z t F i n
  | 0, _ => rfl
  | n + 1, h => by
    have ih := D.stN_cong Z t n (fun j hj => h j (by omega))
    unfold Doc.stN
    rw [ih]
    split
    · rename_i q; rw [h n (by omega) q]
    · rfl
theorem Doc.ke_gt (hw : D.wf) {i j : Nat} (h : D.ke i j = true) : i < j ∧ j < D.n ∧ D.kd j = 0 := by
  unfold Doc.ke at h
  rw [Bool.and_eq_true, decide_eq_true_eq] at h
  have hj := D.ax_lt 1 i j h.1
  have h1 := h.1
  simp [Doc.ax] at h1
  have := D.up_lt hw h1.2.1 hj
  exact ⟨by omega, hj, h.2⟩
theorem Doc.tyF_ge (hw : D.wf) : ∀ f i g, D.n - i ≤ f → D.n - i ≤ g → i < D.n → D.tyF Z f i = D.tyF Z g i := by
  intro f
  induction f with
  | zero => intro i g h1 _ h3; omega
  | succ f ih =>
    intro i g h1 h2 h3
    obtain ⟨g, rfl⟩ : ∃ k, g = k + 1 := ⟨g - 1, by omega⟩
    funext t
    show (D.own Z i t && decide (D.stN Z t (D.tyF Z f) i D.n &&& Z.fi t ≠ 0)) = (D.own Z i t && decide (D.stN Z t (D.tyF Z g) i D.n &&& Z.fi t ≠ 0))
    rw [D.stN_cong Z t D.n (F := D.tyF Z g) (fun j hj hk => by
      have := D.ke_gt hw hk
      exact ih j g (by omega) (by omega) hj)]
theorem Doc.ty_eq (hw : D.wf) (hi : i < D.n) (t : Nat) : D.ty Z i t = (D.own Z i t && decide (D.stN Z t (D.ty Z) i D.n &&& Z.fi t ≠ 0)) := by
  unfold Doc.ty
  obtain ⟨f, hf⟩ : ∃ k, D.n - i = k + 1 := ⟨D.n - i - 1, by omega⟩
  rw [hf]
  show (D.own Z i t && decide (D.stN Z t (D.tyF Z f) i D.n &&& Z.fi t ≠ 0)) = _
  rw [D.stN_cong Z t D.n (F := fun j => D.tyF Z (D.n - j) j) (fun j hj hk => by
    have := D.ke_gt hw hk
    exact Doc.tyF_ge hw f j (D.n - j) (by omega) (Nat.le_refl _) hj)]
theorem Sma.b_nx (Z : Sma) (t : Nat) (s : Int32) (E : Nat → Bool) (j : Nat) : ∀ n, bt (Z.nx t s E n) j = true ↔ ∃ k, k < n ∧ bt s (k / 6) = true ∧ E (k % 6) = true ∧ bt (Z.ar (24 * t + k)) j = true
  | 0 => by simp [Sma.nx, bt_0]
  | n + 1 => by
    have ih := Sma.b_nx Z t s E j n
    unfold Sma.nx
    constructor
    · intro h
      by_cases q : (bt s (n / 6) && E (n % 6)) = true
      · rw [if_pos q, b_or, Bool.or_eq_true] at h
        rcases h with h | h
        · obtain ⟨k, a, b⟩ := ih.mp h; exact ⟨k, by omega, b⟩
        · rw [Bool.and_eq_true] at q; exact ⟨n, by omega, q.1, q.2, h⟩
      · rw [if_neg q] at h
        obtain ⟨k, a, b⟩ := ih.mp h; exact ⟨k, by omega, b⟩
    · rintro ⟨k, a, b1, b2, b3⟩
      by_cases q : k = n
      · subst q
        rw [if_pos (by rw [b1, b2]; rfl), b_or, b3, Bool.or_true]
      · have := ih.mpr ⟨k, by omega, b1, b2, b3⟩
        split
        · rw [b_or, this, Bool.true_or]
        · exact this
theorem tc_Sch.is (h : tc_Sch S 131) (c : tc_C) : tq_is (tc_mk S c) 131 6 = some () := tc_is h.1
theorem s_statesBehind (hS : tc_Sch S 131) (hC : SC c Z) (ht : t < 6) (s : Int32) (E : Nat → Bool) : f_X6_statesBehind 131 (nI t) s (tI E 6) (tc_mk S c) = some (Z.nx t s E 24) := by
  have hg : tq_gr (tc_mk S c) 131 6 3 = some 138 := by simp (maxSteps := 3000000) (disch := omega) only [Option.bind_some, tc_bs, tq_let, tc_I1, tc_I2, tc_J1, tc_J2, tc_J3, tc_F1, tc_F2, tc_F3, tc_F4, tc_G1, tc_G2, tc_G3, tc_G4, tc_G5, tc_us, tc_un, s_one, s_holds, s_J13_bitCount, bz_bI, hS.f]
  have hi : tq_is (tc_mk S c) 138 5 = some () := by simp (maxSteps := 3000000) (disch := omega) only [Option.bind_some, tc_bs, tq_let, tc_I1, tc_I2, tc_J1, tc_J2, tc_J3, tc_F1, tc_F2, tc_F3, tc_F4, tc_G1, tc_G2, tc_G3, tc_G4, tc_G5, tc_us, tc_un, s_one, s_holds, s_J13_bitCount, bz_bI, hS.f]
  have hE := bt_tI E 6 (Nat.le_refl _)
  have hat : ∀ f, f < 4 → f_X6_arcAt (nI t) (nI f) 0 (tc_mk S c) = some (nI (24 * t + 6 * f)) := fun f hf => by
    unfold f_X6_arcAt
    rw [show (4 : Int32) = nI 4 from rfl, nI_mul, nI_add, show (6 : Int32) = nI 6 from rfl, nI_mul, show (0 : Int32) = nI 0 from rfl, nI_add]
    congr 2; omega
  let un := fun f => orI (fun m => rz 144 (c.1 139) (nI (24 * t + 6 * f + m))) (tI E 6) 8
  have hun : ∀ f, f < 4 → f_X5_union 138 (nI (24 * t + 6 * f)) (tI E 6) (tc_mk S c) = some (un f) := fun f hf => s_X5_union hS.2.2.2.2.1 (show 24 * t + 6 * f < 2 ^ 30 by omega) _
  let acc : Nat → Int32 := fun n => orI un s n
  have W := tc_scan (B := f_X6_statesBehind_b6 131 (nI t) s (tI E 6) (tc_mk S c)) 4 acc (e := acc 4) (by omega) (fun f hf => by
    dsimp only [f_X6_statesBehind_b6]
    rw [if_neg (show ¬ nI f ≥ 4 from nI_ge hf (by decide))]
    by_cases q : bt s f = true
    · rw [if_neg (fun w => by have := (bt_sh s (show f < 32 by omega)).mp w; rw [q] at this; cases this)]
      simp only [hg, hi, hat f hf, hun f hf, Option.bind_some, tq_let, nI_1]
      show some (Sum.inl (orI un s f ||| un f, nI (f + 1))) = some (Sum.inl (orI un s (f + 1), nI (f + 1)))
      rw [show orI un s (f + 1) = if bt s f then orI un s f ||| un f else orI un s f from rfl, if_pos q]
    · have q2 : bt s f = false := by simpa using q
      rw [if_pos ((bt_sh s (show f < 32 by omega)).mpr q2), Option.bind_some]
      simp only [tq_let, nI_1]
      show some (Sum.inl (orI un s f, nI (f + 1))) = some (Sum.inl (orI un s (f + 1), nI (f + 1)))
      rw [show orI un s (f + 1) = if bt s f then orI un s f ||| un f else orI un s f from rfl, q2]; rfl) (by rfl)
  unfold f_X6_statesBehind
  have : acc 4 = Z.nx t s E 24 := by
    apply b_ext
    intro j _
    apply Bool.ext_iff
    show bt (orI un s 4) j = true ↔ _
    rw [b_orI, Sma.b_nx]
    constructor
    · rintro ⟨f, hf, h1, h2⟩
      obtain ⟨by', hb, h3, h4⟩ := (b_orI _ _ j 8).mp h2
      rw [hE, Bool.and_eq_true, decide_eq_true_eq] at h3
      rw [rz_in _ (show 24 * t + 6 * f + by' < 144 by omega) (by decide), hC.2.2.2.1 _ (by omega)] at h4
      refine ⟨6 * f + by', by omega, ?_, ?_, ?_⟩
      · rw [show (6 * f + by') / 6 = f by omega]; exact h1
      · rw [show (6 * f + by') % 6 = by' by omega]; exact h3.2
      · rw [show 24 * t + (6 * f + by') = 24 * t + 6 * f + by' by omega]; exact h4
    · rintro ⟨k, hk, h1, h2, h3⟩
      refine ⟨k / 6, by omega, h1, (b_orI _ _ j 8).mpr ⟨k % 6, by omega, ?_, ?_⟩⟩
      · rw [hE, h2]; simp; omega
      · rw [rz_in _ (show 24 * t + 6 * (k / 6) + k % 6 < 144 by omega) (by decide), hC.2.2.2.1 _ (by omega), show 24 * t + 6 * (k / 6) + k % 6 = 24 * t + k by omega]
        exact h3
  rw [show ((0 : Int32), (0 : Int32)) = (acc 0, 0) from rfl, W, this]
  rfl
theorem Doc.stN_gap (D : Doc) (Z : Sma) (t : Nat) (E : Nat → Nat → Bool) (i j : Nat) : ∀ d, fb_ct (D.ke i) (j + d) = fb_ct (D.ke i) j → D.stN Z t E i (j + d) = D.stN Z t E i j
  | 0, _ => rfl
  | d + 1, h => by
    have h1 := fb_ct_mono (D.ke i) (show j ≤ j + d by omega)
    have h2 : fb_ct (D.ke i) (j + (d + 1)) = fb_ct (D.ke i) (j + d) + (if D.ke i (j + d) then 1 else 0) := fb_ct_succ _ _
    have hk : D.ke i (j + d) = false := by
      cases q : D.ke i (j + d) with
      | false => rfl
      | true => rw [q, if_pos rfl] at h2; omega
    rw [hk] at h2
    have ih := D.stN_gap Z t E i j d (by simp at h2; omega)
    show (if D.ke i (j + d) then _ else D.stN Z t E i (j + d)) = _
    rw [hk, ← ih]; rfl
theorem Doc.stN_ct (D : Doc) (Z : Sma) (t : Nat) (E : Nat → Nat → Bool) (i : Nat) {j k : Nat} (h : fb_ct (D.ke i) j = fb_ct (D.ke i) k) : D.stN Z t E i j = D.stN Z t E i k := by
  rcases Nat.le_total j k with q | q
  · have := D.stN_gap Z t E i j (k - j) (by rw [show j + (k - j) = k by omega]; exact h.symm)
    rw [show j + (k - j) = k by omega] at this
    exact this.symm
  · have := D.stN_gap Z t E i k (j - k) (by rw [show k + (j - k) = j by omega]; exact h)
    rwa [show k + (j - k) = j by omega] at this
theorem s_isAccepted (hS : tc_Sch S 131) (hw : D.wf) (hC : SC c Z) (ht : t < 6) (hE : ∀ j, i < j → j < D.n → c.1 141 j = tI (D.ty Z j) 6) : f_X6_isAccepted 131 (mkS (D.ke i)) (nI t) (tc_mk S c) = some (bI (decide (D.stN Z t (D.ty Z) i D.n &&& Z.fi t ≠ 0))) := by
  have hn := D.n_le hw
  have hX : ∀ j, D.ke i j = true → j < D.n := fun j h => (D.ke_gt hw h).2.1
  have h64 := ct64 hw hX
  have hle := fb_ct_le (D.ke i) 64
  have hct : ∀ j, j ≤ 64 → fb_ct (tb (mkS (D.ke i))) j = fb_ct (D.ke i) j := fun j hj => fb_ct_cong fun l hl => by rw [tb_mkS]; simp; omega
  have hg4 : tq_gr (tc_mk S c) 131 6 4 = some 140 := by simp (maxSteps := 3000000) (disch := omega) only [Option.bind_some, tc_bs, tq_let, tc_I1, tc_I2, tc_J1, tc_J2, tc_J3, tc_F1, tc_F2, tc_F3, tc_F4, tc_G1, tc_G2, tc_G3, tc_G4, tc_G5, tc_us, tc_un, s_one, s_holds, s_J13_bitCount, bz_bI, hS.f]
  have hi4 : tq_is (tc_mk S c) 140 5 = some () := by simp (maxSteps := 3000000) (disch := omega) only [Option.bind_some, tc_bs, tq_let, tc_I1, tc_I2, tc_J1, tc_J2, tc_J3, tc_F1, tc_F2, tc_F3, tc_F4, tc_G1, tc_G2, tc_G3, tc_G4, tc_G5, tc_us, tc_un, s_one, s_holds, s_J13_bitCount, bz_bI, hS.f]
  have hg1 : tq_gr (tc_mk S c) 131 6 1 = some 134 := by simp (maxSteps := 3000000) (disch := omega) only [Option.bind_some, tc_bs, tq_let, tc_I1, tc_I2, tc_J1, tc_J2, tc_J3, tc_F1, tc_F2, tc_F3, tc_F4, tc_G1, tc_G2, tc_G3, tc_G4, tc_G5, tc_us, tc_un, s_one, s_holds, s_J13_bitCount, bz_bI, hS.f]
  have hi1 : tq_is (tc_mk S c) 134 5 = some () := by simp (maxSteps := 3000000) (disch := omega) only [Option.bind_some, tc_bs, tq_let, tc_I1, tc_I2, tc_J1, tc_J2, tc_J3, tc_F1, tc_F2, tc_F3, tc_F4, tc_G1, tc_G2, tc_G3, tc_G4, tc_G5, tc_us, tc_un, s_one, s_holds, s_J13_bitCount, bz_bI, hS.f]
  have hfi : f_X5_get 134 (nI t) (tc_mk S c) = some (Z.fi t) := by
    simp (maxSteps := 3000000) (disch := omega) only [Option.bind_some, tc_bs, tq_let, tc_I1, tc_I2, tc_J1, tc_J2, tc_J3, tc_F1, tc_F2, tc_F3, tc_F4, tc_G1, tc_G2, tc_G3, tc_G4, tc_G5, tc_us, tc_un, s_one, s_holds, s_J13_bitCount, bz_bI, hS.f, rg_in _ ht (show 6 < 2 ^ 31 by decide)]
    rw [hC.2.1 t ht]
  obtain ⟨y, v1, v2⟩ := tc_run (B := f_X6_isAccepted_b12 131 (nI t) (tc_mk S c)) (fb_ct (D.ke i) 64) (fun k (y : Int32 × Int64) => (y.1, y.2, nI (fb_ct (D.ke i) 64 - k))) (fun k y => Rest (mkS (D.ke i)) k y.2 ∧ ∀ j, j ≤ 64 → fb_ct (D.ke i) j = k → y.1 = D.stN Z t (D.ty Z) i j) (fun y => y.1) (by omega) (fun k y hk hy => by
    obtain ⟨hR, hs⟩ := hy
    obtain ⟨m, h1, h2, h3⟩ := fb_ct_kth hk
    have hm := D.ke_gt hw h2
    have hm1 : tb (mkS (D.ke i)) m = true := by rw [tb_mkS, h2]; simp [h1]
    have hm2 : fb_ct (tb (mkS (D.ke i))) m = k := by rw [hct m (by omega), h3]
    have hlow := rest_low hR h1 hm1 hm2
    have hsm := hs m (by omega) h3
    have hget : f_X5_get 140 (nI m) (tc_mk S c) = some (tI (D.ty Z m) 6) := by
      simp (maxSteps := 3000000) (disch := omega) only [Option.bind_some, tc_bs, tq_let, tc_I1, tc_I2, tc_J1, tc_J2, tc_J3, tc_F1, tc_F2, tc_F3, tc_F4, tc_G1, tc_G2, tc_G3, tc_G4, tc_G5, tc_us, tc_un, s_one, s_holds, s_J13_bitCount, bz_bI, hS.f, rg_in _ (show m < 60 by omega) (show 60 < 2 ^ 31 by decide)]
      rw [hE m hm.1 hm.2.1]
    have e7 : nI (fb_ct (D.ke i) 64 - k) + (-1) = nI (fb_ct (D.ke i) 64 - (k + 1)) := by
      rw [show fb_ct (D.ke i) 64 - k = (fb_ct (D.ke i) 64 - (k + 1)) + 1 by omega, pk_m1]
    refine ⟨(Z.nx t y.1 (D.ty Z m) 24, y.2 &&& (y.2 - 1)), ?_, rest_succ hR h1 hm1 hm2, fun j hj hjk => ?_⟩
    · dsimp only [f_X6_isAccepted_b12]
      rw [if_neg (nI_nle (show 0 < fb_ct (D.ke i) 64 - k by omega) (by omega))]
      simp only [hg4, hi4, s_X0_lowest hlow, hget, hS.is, s_statesBehind hS hC ht, Option.bind_some, tq_let, e7]
    · have hnx : D.stN Z t (D.ty Z) i (m + 1) = Z.nx t y.1 (D.ty Z m) 24 := by
        show (if D.ke i m then _ else _) = _
        rw [if_pos h2, ← hsm]
      show Z.nx t y.1 (D.ty Z m) 24 = _
      rw [← hnx]
      refine D.stN_ct Z t _ i ?_
      rw [hjk, fb_ct_succ, if_pos h2, h3]) (fun y hy => by
    dsimp only [f_X6_isAccepted_b12]
    rw [Nat.sub_self, if_pos (show nI 0 ≤ 0 by decide)]) (x := (1, mkS (D.ke i))) ⟨rest_0 _, fun j hj h => by
      have := D.stN_ct Z t (D.ty Z) i (j := j) (k := 0) h
      rw [this]; rfl⟩
  have hfin : y.1 = D.stN Z t (D.ty Z) i D.n := v2.2 D.n (by omega) h64.symm
  unfold f_X6_isAccepted
  rw [s_J13_bitCount, ct_mkS, Option.bind_some, show ((1 : Int32), mkS (D.ke i), nI (fb_ct (D.ke i) 64)) = (1, mkS (D.ke i), nI (fb_ct (D.ke i) 64 - 0)) from rfl, v1, hfin]
  simp only [hg1, hi1, hfi, Option.bind_some, tq_let]
  by_cases q : D.stN Z t (D.ty Z) i D.n &&& Z.fi t = 0
  · rw [if_pos q]; simp [q, bI, tq_bz]
  · rw [if_neg q]; simp [q, bI, tq_bz]
end SCH
