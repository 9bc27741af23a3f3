/-! ===== numbers for what is new ===== -/
/-- the last kept spot below one -/
def loK (K : Nat → Bool) : Nat → Nat
  | 0 => 0
  | j + 1 => if K j = true then j else loK K j
/-- the first kept spot from one on -/
def hiF (K : Nat → Bool) : Nat → Nat → Nat
  | 0, j => j
  | d + 1, j => if K j = true then j else hiF K d (j + 1)
def hiK (K : Nat → Bool) (n j : Nat) : Nat := hiF K (n - j) j
def Doc.kp (D : Doc) (Q : Nat → Bool) (j : Nat) : Bool := decide (j < D.n) && (D.sol j && !Q j)
/-- the number of a new spot -/
def Doc.nwN (D : Doc) (Q : Nat → Bool) (N : Nat → Int32) (j : Nat) : Int32 :=
  if hiK (D.kp Q) D.n j = D.n then N (D.ord (loK (D.kp Q) j)) + 16 * nI (fb_ct Q (j + 1) - fb_ct Q (loK (D.kp Q) j))
  else N (D.ord (loK (D.kp Q) j)) + (nI (fb_ct Q (j + 1) - fb_ct Q (loK (D.kp Q) j)) * (N (D.ord (hiK (D.kp Q) D.n j)) - N (D.ord (loK (D.kp Q) j)))) / (nI (fb_ct Q (hiK (D.kp Q) D.n j) - fb_ct Q (loK (D.kp Q) j)) + 1)
/-- the room between two kept spots is enough -/
def Doc.fitA (D : Doc) (Q : Nat → Bool) (N : Nat → Int32) (j : Nat) : Prop :=
  hiK (D.kp Q) D.n j = D.n ∨ N (D.ord (hiK (D.kp Q) D.n j)) - N (D.ord (loK (D.kp Q) j)) > nI (fb_ct Q (hiK (D.kp Q) D.n j) - fb_ct Q (loK (D.kp Q) j))
def Doc.fitN (D : Doc) (Q : Nat → Bool) (N : Nat → Int32) : Prop := ∀ j, j < D.n → Q j = true → D.fitA Q N j
section LOK
variable {K Q : Nat → Bool} {a j k n s h : Nat}
theorem loK_is (ha : K a = true) (hj : a < j) (hn : ∀ k, a < k → k < j → K k = false) : loK K j = a := by
  induction j with
  | zero => exact absurd hj (Nat.not_lt_zero _)
  | succ j ih =>
    rw [loK]
    by_cases q : a = j
    · rw [← q, if_pos ha]
    · rw [hn j (by omega) (Nat.lt_succ_self _), if_neg (by decide)]
      exact ih (by omega) fun k h1 h2 => hn k h1 (by omega)
theorem loK_le : loK K j ≤ j := by
  induction j with
  | zero => exact Nat.le_refl _
  | succ j ih => rw [loK]; split <;> omega
theorem loK_at (h0 : K 0 = true) (hj : 0 < j) : K (loK K j) = true ∧ loK K j < j ∧ ∀ k, loK K j < k → k < j → K k = false := by
  induction j with
  | zero => exact absurd hj (Nat.lt_irrefl _)
  | succ j ih =>
    rw [loK]
    by_cases q : K j = true
    · rw [if_pos q]; exact ⟨q, Nat.lt_succ_self _, fun k h1 h2 => by omega⟩
    · rw [if_neg q]
      by_cases z : j = 0
      · rw [z] at q; exact absurd h0 q
      · obtain ⟨a, b, d⟩ := ih (by omega)
        refine ⟨a, by omega, fun k h1 h2 => ?_⟩
        by_cases e : k = j
        · rw [e]; cases w : K j with
          | false => rfl
          | true => exact absurd w q
        · exact d k h1 (by omega)
theorem hiF_is : ∀ d j, j ≤ h → h ≤ j + d → (∀ k, j ≤ k → k < h → K k = false) → (h < j + d → K h = true) → hiF K d j = h := by
  intro d
  induction d with
  | zero => intro j h1 h2 _ _; show j = h; omega
  | succ d ih =>
    intro j h1 h2 h3 h4
    rw [hiF]
    by_cases q : j = h
    · rw [q, if_pos (h4 (by omega))]
    · rw [h3 j (Nat.le_refl _) (by omega), if_neg (by decide)]
      exact ih (j + 1) (by omega) (by omega) (fun k a b => h3 k (by omega) b) fun z => h4 (by omega)
theorem hiK_is (h1 : j ≤ h) (h2 : h ≤ n) (h3 : ∀ k, j ≤ k → k < h → K k = false) (h4 : h < n → K h = true) : hiK K n j = h := by
  unfold hiK
  refine hiF_is _ _ h1 (by omega) h3 fun z => h4 (by omega)
theorem hiF_at : ∀ d j, j ≤ hiF K d j ∧ hiF K d j ≤ j + d ∧ (∀ k, j ≤ k → k < hiF K d j → K k = false) ∧ (hiF K d j < j + d → K (hiF K d j) = true) := by
  intro d
  induction d with
  | zero => intro j; exact ⟨Nat.le_refl _, Nat.le_refl _, fun k a b => by have b : k < j := b; omega, fun z => by have z : j < j + 0 := z; omega⟩
  | succ d ih =>
    intro j
    rw [hiF]
    by_cases q : K j = true
    · rw [if_pos q]; exact ⟨Nat.le_refl _, by omega, fun k a b => by omega, fun _ => q⟩
    · rw [if_neg q]
      obtain ⟨a, b, e, f⟩ := ih (j + 1)
      refine ⟨by omega, by omega, fun k h1 h2 => ?_, fun z => f (by omega)⟩
      by_cases z : k = j
      · rw [z]; cases w : K j with
        | false => rfl
        | true => exact absurd w q
      · exact e k (by omega) h2
theorem hiK_at (hj : j ≤ n) : j ≤ hiK K n j ∧ hiK K n j ≤ n ∧ (∀ k, j ≤ k → k < hiK K n j → K k = false) ∧ (hiK K n j < n → K (hiK K n j) = true) := by
  obtain ⟨a, b, d, e⟩ := hiF_at (K := K) (n - j) j
  unfold hiK
  exact ⟨a, by omega, d, fun z => e (by omega)⟩
/-- so many of a set between two spots -/
theorem ct_cutP {lo hi : Nat} : ∀ j, fb_ct (fun j => Q j && decide (lo ≤ j ∧ j < hi)) j = fb_ct Q (if j < hi then (if j < lo then lo else j) else (if hi < lo then lo else hi)) - fb_ct Q lo := by
  intro j
  induction j with
  | zero =>
    show 0 = _
    by_cases h1 : 0 < hi
    · rw [if_pos h1]
      by_cases h2 : 0 < lo
      · rw [if_pos h2]; omega
      · rw [if_neg h2, show lo = 0 by omega]; omega
    · rw [if_neg h1]
      by_cases h2 : hi < lo
      · rw [if_pos h2]; omega
      · rw [if_neg h2, show lo = 0 by omega, show hi = 0 by omega]; omega
  | succ j ih =>
    rw [fb_ct_succ, ih]
    by_cases h1 : j + 1 < hi
    · rw [if_pos h1, if_pos (show j < hi by omega)]
      by_cases h2 : j + 1 < lo
      · rw [if_pos h2, if_pos (show j < lo by omega), if_neg]
        · omega
        · rw [Bool.and_eq_true, decide_eq_true_iff]; omega
      · rw [if_neg h2]
        by_cases h3 : j < lo
        · rw [if_pos h3, show lo = j + 1 by omega, if_neg]
          · omega
          · rw [Bool.and_eq_true, decide_eq_true_iff]; omega
        · rw [if_neg h3, fb_ct_succ]
          have := fb_ct_mono Q (show lo ≤ j by omega)
          cases Q j with
          | false => simp
          | true => simp [show lo ≤ j ∧ j < hi by omega]; omega
    · rw [if_neg h1]
      by_cases h0 : j < hi
      · rw [if_pos h0]
        have hh : hi = j + 1 := by omega
        by_cases h3 : j < lo
        · rw [if_pos h3, if_neg (by rw [Bool.and_eq_true, decide_eq_true_iff]; omega)]
          by_cases h4 : hi < lo
          · rw [if_pos h4]; omega
          · rw [if_neg h4, show hi = lo by omega]; omega
        · rw [if_neg h3, if_neg (show ¬ hi < lo by omega), hh, fb_ct_succ]
          have := fb_ct_mono Q (show lo ≤ j by omega)
          cases Q j with
          | false => simp
          | true => simp [show lo ≤ j ∧ j < j + 1 by omega]; omega
      · have hz : (if (Q j && decide (lo ≤ j ∧ j < hi)) = true then 1 else 0) = 0 := if_neg (by rw [Bool.and_eq_true, decide_eq_true_iff]; omega)
        rw [if_neg h0, hz, Nat.add_zero]
end LOK
/-- a row of numbers has been written for a set of spots -/
def NR (c c' : tc_C) (b : Nat) (D : Doc) (P : Nat → Bool) (g : Nat → Int32) : Prop :=
  (∀ j, P j = true → c'.1 (b + 33) (D.ord j) = g (fb_ct P (j + 1))) ∧ (∀ v, (∀ j, P j = true → D.ord j ≠ v) → c'.1 (b + 33) v = c.1 (b + 33) v) ∧ (∀ a, a ≠ b + 33 → c'.1 a = c.1 a) ∧ c'.2 = c.2
section NRW
variable {S : tq_H} {c c' : tc_C} {b i j k v m lo hi : Nat} {D : Doc} {P Q : Nat → Bool}
theorem s_X8_nr70 (hT : tc_Tree S b) (hw : D.wf) (hL : Lay c b D) (hP : ∀ j, P j = true → j < D.n) (w i4 x : Int32) (f : Nat → Int32)
    (hf : ∀ k, 0 < k → k ≤ fb_ct P 64 → (if i4 = -1 then some (16 * nI k) else (tq_nz (nI (fb_ct P 64) + 1)).bind fun _ => some ((nI k * x) / (nI (fb_ct P 64) + 1))) = some (f k)) :
    ∃ c', tq_loop (f_X8_numberRow_b70 b (mkS P) i4 (nI (fb_ct P 64)) w x) tq_N (1, tc_mk S c) = some (tc_mk S c') ∧ NR c c' b D P (fun k => w + f k) := by
  have hq := fb_ct_le P 64
  have hn := D.n_le hw
  obtain ⟨y, y1, y2, y3, y4, y5⟩ := tc_run (B := f_X8_numberRow_b70 b (mkS P) i4 (nI (fb_ct P 64)) w x) (fb_ct P 64) (fun k y => (nI (k + 1), tc_mk S y))
    (fun k y => (∀ j, P j = true → fb_ct P j < k → y.1 (b + 33) (D.ord j) = w + f (fb_ct P (j + 1))) ∧ (∀ v, (∀ j, P j = true → fb_ct P j < k → D.ord j ≠ v) → y.1 (b + 33) v = c.1 (b + 33) v) ∧ (∀ a, a ≠ b + 33 → y.1 a = c.1 a) ∧ y.2 = c.2) (fun y => tc_mk S y) (by omega) (fun k y hk hy => by
      obtain ⟨y1, y2, y3, y4⟩ := hy
      have e0 : ¬ nI (k + 1) > nI (fb_ct P 64) := nI_nlt (by omega) (by omega)
      have e1 : nI (k + 1) - 1 = nI k := nI_pred k
      have e9 : nI (k + 1) + 1 = nI (k + 1 + 1) := nI_1 _
      have hLy : Lay y b D := by
        unfold Lay
        rw [y4, y3 (b + 3) (by omega), y3 (b + 5) (by omega), y3 (b + 7) (by omega), y3 (b + 9) (by omega), y3 (b + 11) (by omega)]
        exact hL
      obtain ⟨k1, k2, k3, k4⟩ := kS_at hk
      have e2 := s_X3_nodeOfSet (c := y) hT hw hLy hP (nI k)
      generalize kS P k = s at *
      have hs := hP s k2
      rw [k4, D.nd_in hw hs] at e2
      have e3 := hf (k + 1) (by omega) (by omega)
      have hs1 : fb_ct P (s + 1) = k + 1 := by rw [fb_ct_succ, if_pos k2, k3]
      have r60 : ∀ x, rs 60 (y.1 (b + 33)) (nI (D.ord s)) x = upd (y.1 (b + 33)) (D.ord s) x := fun x => rs_in _ x (D.ord_lt hw hs) (by decide)
      have uniq : ∀ j, P j = true → D.ord j = D.ord s → j = s := fun j h1 h2 => D.ord_inj hw (hP j h1) hs h2
      refine ⟨tc_I y (b + 33) (upd (y.1 (b + 33)) (D.ord s) (w + f (k + 1))), ?_, fun j h1 h2 => ?_, fun v hv => ?_, fun a ha => ?_, y4⟩
      · by_cases q : i4 = -1
        · rw [if_pos q] at e3
          have e3 : (16 : Int32) * nI (k + 1) = f (k + 1) := Option.some.inj e3
          simp (maxSteps := 3000000) (disch := omega) only [Option.bind_some, tc_bs, tq_let, tc_I1, tc_I2, tc_J1, tc_J2, tc_J3, tc_F1, tc_F2, tc_F3, tc_F4, tc_G1, tc_G2, tc_G3, tc_G4, tc_G5, tc_us, tc_un, s_one, s_holds, s_J13_bitCount, bz_bI, f_X8_numberRow_b70, hT.f, e0, e1, e2, q, e3, if_true, if_false, r60, e9]
        · rw [if_neg q] at e3
          have hz : ∃ z, tq_nz (nI (fb_ct P 64) + 1) = some z := by
            cases z : tq_nz (nI (fb_ct P 64) + 1) with
            | none => rw [z] at e3; cases e3
            | some u => exact ⟨u, rfl⟩
          obtain ⟨z, hz⟩ := hz
          rw [hz, Option.bind_some] at e3
          have e3 := Option.some.inj e3
          simp (maxSteps := 3000000) (disch := omega) only [Option.bind_some, tc_bs, tq_let, tc_I1, tc_I2, tc_J1, tc_J2, tc_J3, tc_F1, tc_F2, tc_F3, tc_F4, tc_G1, tc_G2, tc_G3, tc_G4, tc_G5, tc_us, tc_un, s_one, s_holds, s_J13_bitCount, bz_bI, f_X8_numberRow_b70, hT.f, e0, e1, e2, q, hz, e3, if_true, if_false, r60, e9]
      · rw [tc_I1, tc_us]
        by_cases q : j = s
        · rw [q, upd_s, hs1]
        · rw [upd_n _ _ fun z => q (uniq j h1 z)]
          refine y1 j h1 ?_
          rcases Nat.lt_or_ge (fb_ct P j) k with z | z
          · exact z
          · exact absurd (fb_ct_kth_one h1 k2 (by omega)) q
      · rw [tc_I1, tc_us, upd_n _ _ fun z => hv s k2 (by omega) z.symm]
        exact y2 v fun j h1 h2 => hv j h1 (by omega)
      · rw [tc_I1, tc_un _ _ ha]; exact y3 a ha) (fun y hy => by
      have e0 : nI (fb_ct P 64 + 1) > nI (fb_ct P 64) := nI_lt (by omega) (by omega)
      simp only [f_X8_numberRow_b70, ↓reduceIte, e0]) (x := c) ⟨fun j _ h => absurd h (Nat.not_lt_zero _), fun _ _ => rfl, fun _ _ => rfl, rfl⟩
  have hall : ∀ j, P j = true → fb_ct P j < fb_ct P 64 := fun j h => (kS_of h (by have := hP j h; omega)).2
  exact ⟨y, y1, fun j h => y2 j h (hall j h), fun v hv => y3 v fun j h _ => hv j h, y4, y5⟩
theorem nr70_2 : f_X8_numberRow_b70_2 = f_X8_numberRow_b70 := rfl
theorem nz_1 {q : Nat} (h : q < 1000) : tq_nz (nI q + 1) = some () := by
  unfold tq_nz
  rw [nI_1, if_neg (nI_ne0 (by omega) (by omega))]
/-- a row at the end -/
theorem s_X8_nrEnd (hT : tc_Tree S b) (hw : D.wf) (hL : Lay c b D) (hP : ∀ j, P j = true → j < D.n) (hlo : lo < D.n) :
    ∃ c', f_X8_numberRow b (mkS P) (nI lo) (-1) (tc_mk S c) = some (1, tc_mk S c') ∧ NR c c' b D P (fun k => c.1 (b + 33) (D.ord lo) + 16 * nI k) := by
  have e0 : fb_ct (tb (mkS P)) 64 = fb_ct P 64 := ct_mkS P
  have hq := fb_ct_le P 64
  by_cases q : fb_ct P 64 = 0
  · have e1 : ¬ nI (fb_ct P 64) ≥ 1 := by rw [q]; decide
    refine ⟨c, by simp (maxSteps := 3000000) (disch := omega) only [Option.bind_some, tc_bs, tq_let, tc_I1, tc_I2, tc_J1, tc_J2, tc_J3, tc_F1, tc_F2, tc_F3, tc_F4, tc_G1, tc_G2, tc_G3, tc_G4, tc_G5, tc_us, tc_un, s_one, s_holds, s_J13_bitCount, bz_bI, f_X8_numberRow, hT.f, e0, e1, if_false], fun j h => ?_, fun _ _ => rfl, fun _ _ => rfl, rfl⟩
    exfalso
    have := fb_ct_zero.mp q j (by have := hP j h; have := D.n_le hw; omega)
    rw [h] at this; cases this
  · have e1 : nI (fb_ct P 64) ≥ 1 := nI_le (show 1 ≤ fb_ct P 64 by omega) (by omega)
    have e2 := s_X3_nodeAt (c := c) hT hw hL hlo
    have e3 := s_X3_nodeAt_n (c := c) hT
    have e4 : rg 60 (c.1 (b + 33)) (nI (D.ord lo)) = c.1 (b + 33) (D.ord lo) := rg_in _ (D.ord_lt hw hlo) (by decide)
    obtain ⟨y, y1, y2⟩ := s_X8_nr70 (c := c) hT hw hL hP (c.1 (b + 33) (D.ord lo)) (-1) (-1 - c.1 (b + 33) (D.ord lo)) (fun k => 16 * nI k) fun k _ _ => if_pos rfl
    refine ⟨y, ?_, y2⟩
    simp (maxSteps := 3000000) (disch := omega) only [Option.bind_some, tc_bs, tq_let, tc_I1, tc_I2, tc_J1, tc_J2, tc_J3, tc_F1, tc_F2, tc_F3, tc_F4, tc_G1, tc_G2, tc_G3, tc_G4, tc_G5, tc_us, tc_un, s_one, s_holds, s_J13_bitCount, bz_bI, f_X8_numberRow, hT.f, e0, e1, e2, e3, e4, rg_n, if_true, y1]
/-- a row between two kept spots -/
theorem s_X8_nrMid (hT : tc_Tree S b) (hw : D.wf) (hL : Lay c b D) (hP : ∀ j, P j = true → j < D.n) (hlo : lo < D.n) (hhi : hi < D.n) :
    (fb_ct P 64 = 0 ∨ c.1 (b + 33) (D.ord hi) - c.1 (b + 33) (D.ord lo) > nI (fb_ct P 64) → ∃ c', f_X8_numberRow b (mkS P) (nI lo) (nI hi) (tc_mk S c) = some (1, tc_mk S c') ∧ NR c c' b D P (fun k => c.1 (b + 33) (D.ord lo) + (nI k * (c.1 (b + 33) (D.ord hi) - c.1 (b + 33) (D.ord lo))) / (nI (fb_ct P 64) + 1))) ∧
    (¬ (fb_ct P 64 = 0 ∨ c.1 (b + 33) (D.ord hi) - c.1 (b + 33) (D.ord lo) > nI (fb_ct P 64)) → f_X8_numberRow b (mkS P) (nI lo) (nI hi) (tc_mk S c) = some (0, tc_mk S c)) := by
  have e0 : fb_ct (tb (mkS P)) 64 = fb_ct P 64 := ct_mkS P
  have hq := fb_ct_le P 64
  have e2 := s_X3_nodeAt (c := c) hT hw hL hlo
  have e3 := s_X3_nodeAt (c := c) hT hw hL hhi
  have e4 : rg 60 (c.1 (b + 33)) (nI (D.ord lo)) = c.1 (b + 33) (D.ord lo) := rg_in _ (D.ord_lt hw hlo) (by decide)
  have e5 : rg 60 (c.1 (b + 33)) (nI (D.ord hi)) = c.1 (b + 33) (D.ord hi) := rg_in _ (D.ord_lt hw hhi) (by decide)
  have n1 : ¬ nI hi = (-1 : Int32) := nI_nm1 (by have := D.n_le hw; omega)
  by_cases q : fb_ct P 64 = 0
  · refine ⟨fun _ => ?_, fun z => absurd (.inl q) z⟩
    have e1 : ¬ nI (fb_ct P 64) ≥ 1 := by rw [q]; decide
    refine ⟨c, by simp (maxSteps := 3000000) (disch := omega) only [Option.bind_some, tc_bs, tq_let, tc_I1, tc_I2, tc_J1, tc_J2, tc_J3, tc_F1, tc_F2, tc_F3, tc_F4, tc_G1, tc_G2, tc_G3, tc_G4, tc_G5, tc_us, tc_un, s_one, s_holds, s_J13_bitCount, bz_bI, f_X8_numberRow, hT.f, e0, e1, if_false], fun j h => ?_, fun _ _ => rfl, fun _ _ => rfl, rfl⟩
    exfalso
    have := fb_ct_zero.mp q j (by have := hP j h; have := D.n_le hw; omega)
    rw [h] at this; cases this
  · have e1 : nI (fb_ct P 64) ≥ 1 := nI_le (show 1 ≤ fb_ct P 64 by omega) (by omega)
    constructor
    · intro h
      have e6 : c.1 (b + 33) (D.ord hi) - c.1 (b + 33) (D.ord lo) > nI (fb_ct P 64) := by
        rcases h with h | h
        · exact absurd h q
        · exact h
      obtain ⟨y, y1, y2⟩ := s_X8_nr70 (c := c) hT hw hL hP (c.1 (b + 33) (D.ord lo)) (nI hi) (c.1 (b + 33) (D.ord hi) - c.1 (b + 33) (D.ord lo)) (fun k => (nI k * (c.1 (b + 33) (D.ord hi) - c.1 (b + 33) (D.ord lo))) / (nI (fb_ct P 64) + 1)) fun k _ _ => by
        rw [if_neg n1, nz_1 (by omega), Option.bind_some]
      refine ⟨y, ?_, y2⟩
      simp (maxSteps := 3000000) (disch := omega) only [Option.bind_some, tc_bs, tq_let, tc_I1, tc_I2, tc_J1, tc_J2, tc_J3, tc_F1, tc_F2, tc_F3, tc_F4, tc_G1, tc_G2, tc_G3, tc_G4, tc_G5, tc_us, tc_un, s_one, s_holds, s_J13_bitCount, bz_bI, f_X8_numberRow, hT.f, e0, e1, e2, e3, e4, e5, n1, nr70_2, e6, if_true, if_false, y1]
    · intro h
      have e6 : ¬ c.1 (b + 33) (D.ord hi) - c.1 (b + 33) (D.ord lo) > nI (fb_ct P 64) := fun z => h (.inr z)
      simp (maxSteps := 3000000) (disch := omega) only [Option.bind_some, tc_bs, tq_let, tc_I1, tc_I2, tc_J1, tc_J2, tc_J3, tc_F1, tc_F2, tc_F3, tc_F4, tc_G1, tc_G2, tc_G3, tc_G4, tc_G5, tc_us, tc_un, s_one, s_holds, s_J13_bitCount, bz_bI, f_X8_numberRow, hT.f, e0, e1, e2, e3, e4, e5, n1, e6, if_true, if_false]
end NRW
