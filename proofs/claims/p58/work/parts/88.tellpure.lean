/-! ===== types of paths: class and reference go together ===== -/
def s8 (A : Nat → Bool) : Prop := ∀ x, A x = true → x < 8
def AddF (F : (Nat → Bool) → Nat → Bool) : Prop := ∀ A B, F (fun x => A x || B x) = fun x => F A x || F B x
section PUR
variable {Z : Sma} {P : Pat} {F G : (Nat → Bool) → Nat → Bool} {A B : Nat → Bool} {R T : Nat → Nat → Bool}
theorem st8_add (R : Nat → Nat → Bool) : AddF (st8 R) := fun A B => funext fun x => by
  unfold st8
  apply Bool.ext_iff
  rw [Bool.or_eq_true, anyB_iff, anyB_iff, anyB_iff]
  constructor
  · rintro ⟨y, hy, h⟩
    rw [Bool.and_eq_true, Bool.or_eq_true] at h
    rcases h.1 with q | q
    · exact .inl ⟨y, hy, by rw [q, h.2]; rfl⟩
    · exact .inr ⟨y, hy, by rw [q, h.2]; rfl⟩
  · rintro (⟨y, hy, h⟩ | ⟨y, hy, h⟩)
    · rw [Bool.and_eq_true] at h; exact ⟨y, hy, by simp [h.1, h.2]⟩
    · rw [Bool.and_eq_true] at h; exact ⟨y, hy, by simp [h.1, h.2]⟩
theorem itF_mono : ∀ (k d x : Nat), itF F A k x = true → itF F A (k + d) x = true
  | k, 0, x, h => h
  | k, d + 1, x, h => by
    show (itF F A (k + d) x || _) = true
    rw [itF_mono k d x h]; rfl
theorem itF_s8 (hA : s8 A) (hF : ∀ B, s8 (F B)) : ∀ k, s8 (itF F A k)
  | 0 => hA
  | k + 1 => fun x h => by
    change (itF F A k x || F (itF F A k) x) = true at h
    rw [Bool.or_eq_true] at h
    rcases h with h | h
    · exact itF_s8 hA hF k x h
    · exact hF _ x h
theorem itF_on {k : Nat} (h : itF F A (k + 1) = itF F A k) : ∀ d, itF F A (k + d) = itF F A k
  | 0 => rfl
  | d + 1 => by
    have ih := itF_on h d
    show (fun x => itF F A (k + d) x || F (itF F A (k + d)) x) = _
    rw [ih]
    exact h
theorem itF_fix (hA : s8 A) (hF : ∀ B, s8 (F B)) {m : Nat} (hm : 8 ≤ fb_ct A 8 + m) (d : Nat) : itF F A (m + d) = itF F A m := by
  have hx : ∃ k, k ≤ m ∧ itF F A (k + 1) = itF F A k := by
    refine Classical.byContradiction fun hn => ?_
    have key : ∀ k, k ≤ m + 1 → fb_ct A 8 + k ≤ fb_ct (itF F A k) 8 := by
      intro k
      induction k with
      | zero => intro _; exact Nat.le_refl _
      | succ k ih =>
        intro hk
        have h1 := ih (by omega)
        have h2 : ¬ itF F A (k + 1) = itF F A k := fun w => hn ⟨k, by omega, w⟩
        have h3 : ∃ j, j < 8 ∧ itF F A (k + 1) j = true ∧ itF F A k j = false := by
          refine Classical.byContradiction fun hy => h2 (funext fun j => ?_)
          cases e : itF F A k j with
          | true => exact itF_mono k 1 j e
          | false =>
            cases e2 : itF F A (k + 1) j with
            | false => rfl
            | true => exact absurd ⟨j, itF_s8 hA hF (k + 1) j e2, e2, e⟩ hy
        have := ct_lt (p := itF F A k) (q := itF F A (k + 1)) (fun j _ hj => itF_mono k 1 j hj) h3
        omega
    have h1 := key (m + 1) (Nat.le_refl _)
    have h2 := fb_ct_le (itF F A (m + 1)) 8
    omega
  obtain ⟨k, h1, h2⟩ := hx
  have a := itF_on h2 (m - k)
  have b := itF_on h2 (m + d - k)
  rw [show k + (m - k) = m by omega] at a
  rw [show k + (m + d - k) = m + d by omega] at b
  rw [a, b]
theorem itF_or (hF : AddF F) (A : Nat → Bool) : ∀ k, itF F A (k + 1) = fun x => A x || itF F (F A) k x
  | 0 => rfl
  | k + 1 => by
    have ih := itF_or hF A k
    show (fun x => itF F A (k + 1) x || F (itF F A (k + 1)) x) = _
    rw [ih, hF]
    funext x
    show ((A x || itF F (F A) k x) || (F A x || F (itF F (F A) k) x)) = (A x || (itF F (F A) k x || F (itF F (F A) k) x))
    have h1 : F A x = true → itF F (F A) k x = true := fun h => by
      have := itF_mono (F := F) (A := F A) 0 k x h
      rwa [Nat.zero_add] at this
    cases a : A x <;> cases b : F A x <;> cases e : itF F (F A) k x <;> simp_all
theorem pw_it (hF : AddF F) (A : Nat → Bool) : ∀ k, (fun x => anyB (fun j => pwF F A j x) (k + 1)) = itF F (F A) k := by
  have h1 : ∀ k, F (fun x => anyB (fun j => pwF F A j x) (k + 1)) = fun x => anyB (fun j => pwF F A (j + 1) x) (k + 1) := by
    intro k
    induction k with
    | zero =>
      have e : (fun x => anyB (fun j => pwF F A j x) (0 + 1)) = F A := funext fun x => by show (false || F A x) = F A x; rfl
      rw [e]
      funext x
      show F (F A) x = (false || F (F A) x)
      rfl
    | succ k ih =>
      have e : (fun x => anyB (fun j => pwF F A j x) (k + 1 + 1)) = fun x => anyB (fun j => pwF F A j x) (k + 1) || pwF F A (k + 1) x := rfl
      rw [e, hF _ _, ih]
      rfl
  intro k
  induction k with
  | zero => funext x; show (false || F A x) = F A x; rfl
  | succ k ih =>
    show _ = fun x => itF F (F A) k x || F (itF F (F A) k) x
    rw [← ih, h1]
    funext x
    apply Bool.ext_iff
    rw [Bool.or_eq_true, anyB_iff, anyB_iff, anyB_iff]
    constructor
    · rintro ⟨j, hj, h⟩
      rcases Nat.lt_or_ge j (k + 1) with q | q
      · exact .inl ⟨j, q, h⟩
      · right
        obtain ⟨l, rfl⟩ : ∃ l, j = l + 1 := ⟨j - 1, by omega⟩
        exact ⟨l, by omega, h⟩
    · rintro (⟨j, hj, h⟩ | ⟨j, hj, h⟩)
      · exact ⟨j, by omega, h⟩
      · exact ⟨j + 1, by omega, h⟩
theorem itF_cong (h : ∀ B, F B = G B) : ∀ k, itF F A k = itF G A k
  | 0 => rfl
  | k + 1 => by
    show (fun x => itF F A k x || F (itF F A k) x) = fun x => itF G A k x || G (itF G A k) x
    rw [itF_cong h k, h]
/-- two ways to go on that agree below a set -/
theorem itF_sub {C : Nat → Bool} (hFG : ∀ B, (∀ x, B x = true → C x = true) → F B = G B) (hG : ∀ B, (∀ x, B x = true → C x = true) → ∀ x, G B x = true → C x = true) (hA : ∀ x, A x = true → C x = true) : ∀ k, itF F A k = itF G A k ∧ ∀ x, itF G A k x = true → C x = true
  | 0 => ⟨rfl, hA⟩
  | k + 1 => by
    obtain ⟨h1, h2⟩ := itF_sub hFG hG hA k
    refine ⟨?_, fun x h => ?_⟩
    · show (fun x => itF F A k x || F (itF F A k) x) = fun x => itF G A k x || G (itF G A k) x
      rw [h1, hFG _ h2]
    · change (itF G A k x || G (itF G A k) x) = true at h
      rw [Bool.or_eq_true] at h
      rcases h with h | h
      · exact h2 x h
      · exact hG _ h2 x h
theorem st8_s8 (hR : ∀ y x, R y x = true → x < 8) (B : Nat → Bool) : s8 (st8 R B) := fun x h => by
  obtain ⟨y, _, h⟩ := anyB_iff.mp h
  rw [Bool.and_eq_true] at h
  exact hR y x h.2
theorem H_s8 (Z : Sma) (B : Nat → Bool) : s8 (st8 Z.H B) := st8_s8 (fun y x h => (Z.H_of h).2) B
theorem one_ct : 8 ≤ fb_ct (fun x => decide (x = 0)) 8 + 7 := by decide
theorem al_s8 (Z : Sma) : s8 Z.al := itF_s8 (fun x h => by have := of_decide_eq_true h; omega) (H_s8 Z) 7
theorem al_it (Z : Sma) (d : Nat) : itF (st8 Z.H) (fun x => decide (x = 0)) (7 + d) = Z.al := itF_fix (fun x h => by have := of_decide_eq_true h; omega) (H_s8 Z) one_ct d
theorem al_H (Z : Sma) {t x : Nat} (h1 : Z.al t = true) (h2 : Z.H t x = true) : Z.al x = true := by
  have e := al_it Z 1
  have : (fun x => Z.al x || st8 Z.H Z.al x) x = Z.al x := congrFun e x
  rw [← this]
  have h3 : st8 Z.H Z.al x = true := anyB_iff.mpr ⟨t, by have := (Z.H_of h2).1; omega, by rw [h1, h2]; rfl⟩
  show (Z.al x || st8 Z.H Z.al x) = true
  rw [h3, Bool.or_true]
theorem al_0 (Z : Sma) : Z.al 0 = true := by
  have := itF_mono (F := st8 Z.H) (A := fun x => decide (x = 0)) 0 7 0 rfl
  exact this
/-- what the class takes for all types -/
theorem al_clo (Z : Sma) : (fun x => clo (st8 Z.H) (fun x => decide (x = 0)) x || decide (x = 0)) = Z.al := by
  rw [← al_it Z 2, itF_or (st8_add _) _ 8]
  funext x
  exact Bool.or_comm _ _
theorem st_al (Z : Sma) (hA : ∀ x, A x = true → Z.al x = true) {x : Nat} (h : st8 Z.H A x = true) : Z.al x = true := by
  obtain ⟨y, _, h⟩ := anyB_iff.mp h
  rw [Bool.and_eq_true] at h
  exact al_H Z (hA y h.1) h.2
theorem par_hv (Z : Sma) (hA : ∀ x, A x = true → Z.al x = true) : Z.par A = st8 Z.Hv A := funext fun t => by
  unfold Sma.par st8 Sma.Hv
  apply Bool.ext_iff
  rw [Bool.and_eq_true, anyB_iff, anyB_iff]
  constructor
  · rintro ⟨h1, y, hy, h2⟩
    rw [Bool.and_eq_true] at h2
    exact ⟨y, hy, by rw [h2.1, h1, h2.2, hA y h2.1]; rfl⟩
  · rintro ⟨y, hy, h⟩
    simp only [Bool.and_eq_true] at h
    exact ⟨h.2.1, y, hy, by rw [h.1, h.2.2.1]; rfl⟩
theorem hv_al (Z : Sma) {t : Nat} (h : st8 Z.Hv A t = true) : Z.al t = true := by
  obtain ⟨y, _, h⟩ := anyB_iff.mp h
  unfold Sma.Hv at h
  simp only [Bool.and_eq_true] at h
  exact h.2.1
theorem chd_add (Z : Sma) : AddF Z.chd := fun A B => funext fun x => by
  unfold Sma.chd
  rw [st8_add]
  cases decide (x ≠ 7) <;> simp
theorem st_no7 (Z : Sma) : st8 Z.H A = st8 Z.H (fun x => A x && decide (x ≠ 7)) := funext fun x => by
  unfold st8
  apply Bool.ext_iff
  rw [anyB_iff, anyB_iff]
  constructor
  · rintro ⟨y, hy, h⟩
    rw [Bool.and_eq_true] at h
    have := (Z.H_of h.2).1
    exact ⟨y, hy, by simp [h.1, h.2]; omega⟩
  · rintro ⟨y, hy, h⟩
    simp only [Bool.and_eq_true] at h
    exact ⟨y, hy, by rw [h.1.1, h.2]; rfl⟩
theorem clo_no7 (Z : Sma) (A : Nat → Bool) : ∀ k, (fun x => itF (st8 Z.H) (st8 Z.H A) k x && decide (x ≠ 7)) = itF Z.chd (Z.chd A) k
  | 0 => rfl
  | k + 1 => by
    have ih := clo_no7 Z A k
    show (fun x => (itF (st8 Z.H) (st8 Z.H A) k x || st8 Z.H (itF (st8 Z.H) (st8 Z.H A) k) x) && decide (x ≠ 7)) = fun x => itF Z.chd (Z.chd A) k x || Z.chd (itF Z.chd (Z.chd A) k) x
    rw [← ih]
    funext x
    unfold Sma.chd
    rw [st_no7 Z (A := itF (st8 Z.H) (st8 Z.H A) k)]
    by_cases h : x = 7 <;> simp [h]
/-- by an axis both come to the same -/
theorem cam_cax (Z : Sma) {a : Nat} (ha : a < 13) (hA : ∀ x, A x = true → Z.al x = true) (hT : ∀ y x, T y x = true → Z.al x = true) (hF : a = 12 → ∀ B, (∀ x, B x = true → Z.al x = true) → F B = st8 T B) : (fun x => Z.cam a F A x && Z.al x) = Z.cax a T A := by
  have hal : ∀ B : Nat → Bool, (∀ x, B x = true → Z.al x = true) → (fun x => B x && Z.al x) = B := fun B hB => funext fun x => by
    cases e : B x with
    | false => rfl
    | true => rw [hB x e]; rfl
  have hc : a = 0 ∨ a = 1 ∨ a = 2 ∨ a = 3 ∨ a = 4 ∨ a = 5 ∨ a = 6 ∨ a = 7 ∨ a = 8 ∨ a = 9 ∨ a = 10 ∨ a = 11 ∨ a = 12 := by omega
  have hstA : ∀ B : Nat → Bool, (∀ x, B x = true → Z.al x = true) → ∀ x, st8 Z.H B x = true → Z.al x = true := fun B hB x h => st_al Z hB h
  have hit : ∀ k x, itF (st8 Z.H) (st8 Z.H A) k x = true → Z.al x = true := fun k x h => (itF_sub (F := st8 Z.H) (G := st8 Z.H) (A := st8 Z.H A) (C := Z.al) (fun _ _ => rfl) (fun B hB => hstA B hB) (hstA A hA) k).2 x h
  have hpv := fun (A : Nat → Bool) => itF_sub (F := Z.par) (G := st8 Z.Hv) (C := Z.al) (A := A) (fun B hB => par_hv Z hB) (fun B _ x h => hv_al Z h)
  have m8 : ∀ k, 8 ≤ k → 8 ≤ fb_ct (st8 Z.H A) 8 + k := fun k h => by omega
  rcases hc with rfl | rfl | rfl | rfl | rfl | rfl | rfl | rfl | rfl | rfl | rfl | rfl | rfl
  · exact hal A hA
  · show (fun x => Z.chd A x && Z.al x) = fun x => st8 Z.H A x && decide (x ≠ 7)
    exact hal _ (fun x h => hstA A hA x (by unfold Sma.chd at h; rw [Bool.and_eq_true] at h; exact h.1))
  · show (fun x => Z.par A x && Z.al x) = st8 Z.Hv A
    rw [par_hv Z hA]
    exact hal _ (fun x h => hv_al Z h)
  · show (fun x => (clo Z.chd A x && Z.al x) && Z.al x) = fun x => clo (st8 Z.H) A x && decide (x ≠ 7)
    unfold clo
    rw [← clo_no7 Z A 8]
    funext x
    dsimp only
    cases e : itF (st8 Z.H) (st8 Z.H A) 8 x with
    | false => rfl
    | true => rw [hit 8 x e]; simp
  · show (fun x => itF Z.chd A 9 x && Z.al x) = fun x => (clo (st8 Z.H) A x && decide (x ≠ 7)) || A x
    rw [itF_or (chd_add Z) A 8, ← clo_no7 Z A 8]
    unfold clo
    funext x
    dsimp only
    cases e : itF (st8 Z.H) (st8 Z.H A) 8 x with
    | false =>
      cases e2 : A x with
      | false => rfl
      | true => rw [hA x e2]; rfl
    | true => rw [hit 8 x e]; cases A x <;> cases decide (x ≠ 7) <;> rfl
  · show (fun x => clo Z.par A x && Z.al x) = clo (st8 Z.Hv) A
    unfold clo
    have h := hpv (Z.par A) (fun x h => by unfold Sma.par at h; rw [Bool.and_eq_true] at h; exact h.1) 8
    rw [h.1, hal _ h.2, par_hv Z hA]
  · show (fun x => itF Z.par A 9 x && Z.al x) = fun x => clo (st8 Z.Hv) A x || A x
    have h := hpv A hA 9
    rw [h.1, hal _ h.2, itF_or (st8_add _) A 8]
    unfold clo
    funext x
    exact Bool.or_comm _ _
  · show (fun x => (anyB A 8 && (Z.al x && decide (x ≠ 7))) && Z.al x) = fun x => anyB A 8 && (Z.al x && decide (x ≠ 7))
    funext x
    cases anyB A 8 <;> cases Z.al x <;> simp
  · show (fun x => (anyB A 8 && (Z.al x && decide (x ≠ 7))) && Z.al x) = fun x => anyB A 8 && (Z.al x && decide (x ≠ 7))
    funext x
    cases anyB A 8 <;> cases Z.al x <;> simp
  · show (fun x => Z.chd (Z.par A) x && Z.al x) = fun x => st8 Z.H (st8 Z.Hv A) x && decide (x ≠ 7)
    rw [par_hv Z hA]
    exact hal _ (fun x h => hstA _ (fun y hy => hv_al Z hy) x (by unfold Sma.chd at h; rw [Bool.and_eq_true] at h; exact h.1))
  · show (fun x => Z.chd (Z.par A) x && Z.al x) = fun x => st8 Z.H (st8 Z.Hv A) x && decide (x ≠ 7)
    rw [par_hv Z hA]
    exact hal _ (fun x h => hstA _ (fun y hy => hv_al Z hy) x (by unfold Sma.chd at h; rw [Bool.and_eq_true] at h; exact h.1))
  · show (fun x => (st8 Z.H A x && decide (x = 7)) && Z.al x) = fun x => st8 Z.H A x && decide (x = 7)
    exact hal _ (fun x h => hstA A hA x (by rw [Bool.and_eq_true] at h; exact h.1))
  · show (fun x => anyB (fun k => pwF F A k x) 256 && Z.al x) = clo (st8 T) A
    have hTB : ∀ B x, st8 T B x = true → Z.al x = true := fun B x h => by
      obtain ⟨y, _, h⟩ := anyB_iff.mp h
      rw [Bool.and_eq_true] at h
      exact hT y x h.2
    have hp : ∀ k, pwF F A k = pwF (st8 T) A k ∧ ∀ x, pwF (st8 T) A k x = true → Z.al x = true := by
      intro k
      induction k with
      | zero => exact ⟨hF rfl A hA, fun x h => hTB A x h⟩
      | succ k ih =>
        refine ⟨?_, fun x h => hTB _ x h⟩
        show F (pwF F A k) = st8 T (pwF (st8 T) A k)
        rw [ih.1, hF rfl _ ih.2]
    have e1 : (fun x => anyB (fun k => pwF F A k x) 256) = itF (st8 T) (st8 T A) 255 := by
      rw [← pw_it (st8_add T) A 255]
      funext x
      exact anyB_cong fun k _ => by rw [(hp k).1]
    have e2 : itF (st8 T) (st8 T A) 255 = clo (st8 T) A := itF_fix (F := st8 T) (m := 8) (st8_s8 (fun y x h => al_s8 Z x (hT y x h)) A) (fun B => st8_s8 (fun y x h => al_s8 Z x (hT y x h)) B) (by omega) 247
    have e3 : ∀ x, anyB (fun k => pwF F A k x) 256 = clo (st8 T) A x := fun x => congrFun (e1.trans e2) x
    simp only [e3]
    refine hal _ (fun x h => ?_)
    exact (itF_sub (F := st8 T) (G := st8 T) (A := st8 T A) (C := Z.al) (fun _ _ => rfl) (fun B _ x h => hTB B x h) (fun x h => hTB A x h) 8).2 x h
theorem cax_add (Z : Sma) {a : Nat} (T : Nat → Nat → Bool) : AddF (Z.cax a T) := by
  have hst : ∀ R, AddF (st8 R) := st8_add
  have hcl : ∀ R, AddF (clo (st8 R)) := fun R A B => by
    unfold clo
    have key2 : ∀ (A B : Nat → Bool) k, itF (st8 R) (fun x => A x || B x) k = fun x => itF (st8 R) A k x || itF (st8 R) B k x := by
      intro A B k
      induction k with
      | zero => rfl
      | succ k ih =>
        show (fun x => itF (st8 R) (fun x => A x || B x) k x || st8 R (itF (st8 R) (fun x => A x || B x) k) x) = _
        rw [ih, hst R]
        funext x
        show ((itF (st8 R) A k x || itF (st8 R) B k x) || (st8 R (itF (st8 R) A k) x || st8 R (itF (st8 R) B k) x)) = ((itF (st8 R) A k x || st8 R (itF (st8 R) A k) x) || (itF (st8 R) B k x || st8 R (itF (st8 R) B k) x))
        cases itF (st8 R) A k x <;> cases itF (st8 R) B k x <;> cases st8 R (itF (st8 R) A k) x <;> cases st8 R (itF (st8 R) B k) x <;> rfl
    rw [hst R A B]
    exact key2 _ _ 8
  have hany : ∀ A B : Nat → Bool, anyB (fun x => A x || B x) 8 = (anyB A 8 || anyB B 8) := fun A B => by
    apply Bool.ext_iff
    rw [Bool.or_eq_true, anyB_iff, anyB_iff, anyB_iff]
    constructor
    · rintro ⟨y, hy, h⟩
      rw [Bool.or_eq_true] at h
      exact h.imp (fun q => ⟨y, hy, q⟩) (fun q => ⟨y, hy, q⟩)
    · rintro (⟨y, hy, h⟩ | ⟨y, hy, h⟩)
      · exact ⟨y, hy, by rw [h]; rfl⟩
      · exact ⟨y, hy, by rw [h, Bool.or_true]⟩
  intro A B
  funext x
  unfold Sma.cax
  by_cases h0 : a = 0
  · simp only [h0, if_true]
  by_cases h1 : a = 1
  · simp only [h1, h0, if_true, if_false]; simp [hst Z.H A B]; cases decide (x = 7) <;> simp
  by_cases h2 : a = 2
  · simp only [h2]; simp [hst Z.Hv A B]
  by_cases h3 : a = 3
  · simp only [h3]; simp [hcl Z.H A B]; cases decide (x = 7) <;> simp
  by_cases h4 : a = 4
  · simp only [h4]; simp [hcl Z.H A B]; cases decide (x = 7) <;> cases A x <;> cases B x <;> simp
  by_cases h5 : a = 5
  · simp only [h5]; simp [hcl Z.Hv A B]
  by_cases h6 : a = 6
  · simp only [h6]; simp [hcl Z.Hv A B]; cases A x <;> cases B x <;> simp
  by_cases h7 : a = 7 ∨ a = 8
  · simp only [h0, h1, h2, h3, h4, h5, h6, h7, if_true, if_false, hany]; cases anyB A 8 <;> cases anyB B 8 <;> simp
  by_cases h9 : a = 9 ∨ a = 10
  · simp only [h0, h1, h2, h3, h4, h5, h6, h7, h9, if_true, if_false, hst Z.Hv A B, hst Z.H _ _]; cases decide (x ≠ 7) <;> simp
  by_cases h11 : a = 11
  · simp only [h11]; simp [hst Z.H A B]; cases decide (x = 7) <;> simp
  simp only [h0, h1, h2, h3, h4, h5, h6, h7, h9, h11, if_false, hcl T A B]
theorem cax_0 (Z : Sma) {a : Nat} (T : Nat → Nat → Bool) (x : Nat) : Z.cax a T (fun _ => false) x = false := by
  have hst : ∀ R, st8 R (fun _ => false) = fun _ => false := fun R => funext fun x => by
    unfold st8
    cases h : anyB (fun y => false && R y x) 8 with
    | false => rfl
    | true => obtain ⟨y, _, h⟩ := anyB_iff.mp h; cases h
  have hcl : ∀ R, clo (st8 R) (fun _ => false) = fun _ => false := fun R => by
    unfold clo
    rw [hst]
    have : ∀ k, itF (st8 R) (fun _ => false) k = fun _ => false := by
      intro k
      induction k with
      | zero => rfl
      | succ k ih => show (fun x => itF (st8 R) (fun _ => false) k x || st8 R (itF (st8 R) (fun _ => false) k) x) = _; rw [ih, hst]; rfl
    exact this 8
  have hany : anyB (fun _ => false) 8 = false := by decide
  unfold Sma.cax
  simp only [hst, hcl, hany]
  simp
/-- an additive way on a set is what it makes of the members together -/
theorem add_any (hF : AddF F) (h0 : ∀ x, F (fun _ => false) x = false) (hA : s8 A) : F A = fun x => anyB (fun a => A a && F (fun y => decide (y = a)) x) 8 := by
  have key : ∀ n, F (fun y => A y && decide (y < n)) = fun x => anyB (fun a => A a && F (fun y => decide (y = a)) x) n := by
    intro n
    induction n with
    | zero =>
      have e : (fun y => A y && decide (y < 0)) = fun _ => false := funext fun y => by simp
      rw [e]
      funext x
      rw [h0]; rfl
    | succ n ih =>
      cases q : A n with
      | true =>
        have e : (fun y => A y && decide (y < n + 1)) = fun y => (A y && decide (y < n)) || decide (y = n) := funext fun y => by
          by_cases h : y = n
          · subst h; simp [q]
          · simp [h, show (y < n + 1) ↔ y < n by omega]
        rw [e, hF _ _, ih]
        funext x
        rw [anyB, q, Bool.true_and]
      | false =>
        have e : (fun y => A y && decide (y < n + 1)) = fun y => (A y && decide (y < n)) := funext fun y => by
          by_cases h : y = n
          · subst h; simp [q]
          · simp [show (y < n + 1) ↔ y < n by omega]
        rw [e, ih]
        funext x
        rw [anyB, q]; simp
  have e : (fun y => A y && decide (y < 8)) = A := funext fun y => by
    cases q : A y with
    | false => rfl
    | true => simp [hA y q]
  rw [← key 8, e]
theorem rfT_eq (Z : Sma) (P : Pat) {q : Nat} : ∀ {p : Nat}, q < p → Z.rfT P p q = Z.RF P q
  | 0, h => by omega
  | p + 1, h => by
    by_cases e : q = p
    · subst e; rfl
    · funext A
      show (if q = p then _ else Z.rfT P p q A) = _
      rw [if_neg e, rfT_eq Z P (show q < p by omega)]
theorem cfT_eq (Z : Sma) (P : Pat) {q : Nat} : ∀ {p : Nat}, q < p → Z.cfT P p q = Z.CF P q
  | 0, h => by omega
  | p + 1, h => by
    by_cases e : q = p
    · subst e; rfl
    · funext A
      show (if q = p then _ else Z.cfT P p q A) = _
      rw [if_neg e, cfT_eq Z P (show q < p by omega)]
theorem rst_cong (Z : Sma) {F G : Nat → (Nat → Bool) → Nat → Bool} {p s : Nat} (ho : P.okS p s) (h : ∀ q, q < p → F q = G q) (A : Nat → Bool) : Z.rst P F s A = Z.rst P G s A := by
  have hax := ho.1
  funext x
  unfold Sma.rst Sma.cam
  by_cases e : P.ax s = 12
  · rw [h _ (ho.2.2.1 e)]
  · have h0 : P.ax s = 0 ∨ P.ax s = 1 ∨ P.ax s = 2 ∨ P.ax s = 3 ∨ P.ax s = 4 ∨ P.ax s = 5 ∨ P.ax s = 6 ∨ P.ax s = 7 ∨ P.ax s = 8 ∨ P.ax s = 9 ∨ P.ax s = 10 ∨ P.ax s = 11 := by omega
    rcases h0 with w | w | w | w | w | w | w | w | w | w | w | w <;> simp [w]
theorem cst_cong (Z : Sma) {T U : Nat → Nat → Nat → Bool} {p s : Nat} (ho : P.okS p s) (h : ∀ q, q < p → T q = U q) (A : Nat → Bool) : Z.cst P T s A = Z.cst P U s A := by
  have hax := ho.1
  funext x
  unfold Sma.cst Sma.cax
  by_cases e : P.ax s = 12
  · rw [h _ (ho.2.2.1 e)]
  · have h0 : P.ax s = 0 ∨ P.ax s = 1 ∨ P.ax s = 2 ∨ P.ax s = 3 ∨ P.ax s = 4 ∨ P.ax s = 5 ∨ P.ax s = 6 ∨ P.ax s = 7 ∨ P.ax s = 8 ∨ P.ax s = 9 ∨ P.ax s = 10 ∨ P.ax s = 11 := by omega
    rcases h0 with w | w | w | w | w | w | w | w | w | w | w | w <;> simp [w]
theorem RF_fo (Z : Sma) (hP : P.wf) {p : Nat} (hp : p < P.n) (A : Nat → Bool) : ∀ k, k ≤ P.sc p → Z.rfo P (Z.rfT P p) p A k = Z.rfo P (Z.RF P) p A k
  | 0, _ => rfl
  | k + 1, hk => by
    show Z.rst P _ _ _ = Z.rst P _ _ _
    rw [RF_fo Z hP hp A k (by omega), rst_cong Z (hP.2.2 p k hp (by omega)) (fun q hq => rfT_eq Z P hq)]
theorem RF_eq (Z : Sma) (hP : P.wf) {p : Nat} (hp : p < P.n) (A : Nat → Bool) : Z.RF P p A = Z.rfo P (Z.RF P) p A (P.sc p) := by
  show (if p = p then _ else _) = _
  rw [if_pos rfl, RF_fo Z hP hp A _ (Nat.le_refl _)]
theorem CF_fo (Z : Sma) (hP : P.wf) {p : Nat} (hp : p < P.n) (A : Nat → Bool) : ∀ k, k ≤ P.sc p → Z.cfo P (Z.cfT P p) p A k = Z.cfo P (Z.CF P) p A k
  | 0, _ => rfl
  | k + 1, hk => by
    show Z.cst P _ _ _ = Z.cst P _ _ _
    rw [CF_fo Z hP hp A k (by omega), cst_cong Z (hP.2.2 p k hp (by omega)) (fun q hq => cfT_eq Z P hq)]
theorem CF_eq (Z : Sma) (hP : P.wf) {p : Nat} (hp : p < P.n) (a : Nat) : Z.CF P p a = Z.cfo P (Z.CF P) p (fun x => Z.al x && decide (x = a)) (P.sc p) := by
  show (if p = p then _ else _) = _
  rw [if_pos rfl, CF_fo Z hP hp _ _ (Nat.le_refl _)]
theorem cst_add (Z : Sma) (T : Nat → Nat → Nat → Bool) (s : Nat) : AddF (Z.cst P T s) := fun A B => funext fun x => by
  unfold Sma.cst
  rw [cax_add Z _ A B]
  cases Z.tst (P.ts s) x <;> simp
theorem cfo_add (Z : Sma) (T : Nat → Nat → Nat → Bool) (p : Nat) : ∀ k, AddF (fun A => Z.cfo P T p A k)
  | 0 => fun A B => rfl
  | k + 1 => fun A B => by
    have ih := cfo_add Z T p k A B
    show Z.cst P T (5 * p + k) (Z.cfo P T p (fun x => A x || B x) k) = _
    change Z.cfo P T p (fun x => A x || B x) k = fun x => Z.cfo P T p A k x || Z.cfo P T p B k x at ih
    rw [ih, cst_add Z T _ _ _]
    rfl
theorem cfo_0 (Z : Sma) (T : Nat → Nat → Nat → Bool) (p : Nat) : ∀ k, Z.cfo P T p (fun _ => false) k = fun _ => false
  | 0 => rfl
  | k + 1 => by
    show Z.cst P T (5 * p + k) (Z.cfo P T p (fun _ => false) k) = _
    rw [cfo_0 Z T p k]
    funext x
    unfold Sma.cst
    rw [cax_0]; rfl
/-- what a path makes of a set of types, by the reference, is what the class tells of its members -/
theorem RF_CF (Z : Sma) (hP : P.wf) : ∀ p, p < P.n → (∀ a x, Z.CF P p a x = true → Z.al x = true) ∧ ∀ A, (∀ x, A x = true → Z.al x = true) → Z.RF P p A = st8 (Z.CF P p) A := by
  intro p
  induction p using Nat.strongRecOn with
  | ind p ih =>
    intro hp
    have step : ∀ k, k ≤ P.sc p → ∀ A, (∀ x, A x = true → Z.al x = true) → Z.rfo P (Z.RF P) p A k = Z.cfo P (Z.CF P) p A k ∧ ∀ x, Z.cfo P (Z.CF P) p A k x = true → Z.al x = true := by
      intro k
      induction k with
      | zero => intro _ A hA; exact ⟨rfl, hA⟩
      | succ k ihk =>
        intro hk A hA
        obtain ⟨h1, h2⟩ := ihk (by omega) A hA
        have ho := hP.2.2 p k hp (by omega)
        have e : (fun x => Z.cam (P.ax (5 * p + k)) (Z.RF P (P.by (5 * p + k))) (Z.cfo P (Z.CF P) p A k) x && Z.al x) = Z.cax (P.ax (5 * p + k)) (if P.ax (5 * p + k) = 12 then Z.CF P (P.by (5 * p + k)) else fun _ _ => false) (Z.cfo P (Z.CF P) p A k) := by
          refine cam_cax Z (by have := ho.1; omega) h2 (fun y x h => ?_) (fun h12 B hB => ?_)
          · by_cases h12 : P.ax (5 * p + k) = 12
            · rw [if_pos h12] at h
              have hlt := ho.2.2.1 h12
              exact (ih _ hlt (by omega)).1 y x h
            · rw [if_neg h12] at h; cases h
          · rw [if_pos h12]
            have hlt := ho.2.2.1 h12
            exact (ih _ hlt (by omega)).2 B hB
        have e2 : Z.cax (P.ax (5 * p + k)) (if P.ax (5 * p + k) = 12 then Z.CF P (P.by (5 * p + k)) else fun _ _ => false) (Z.cfo P (Z.CF P) p A k) = Z.cax (P.ax (5 * p + k)) (Z.CF P (P.by (5 * p + k))) (Z.cfo P (Z.CF P) p A k) := by
          by_cases h12 : P.ax (5 * p + k) = 12
          · rw [if_pos h12]
          · funext x
            unfold Sma.cax
            have h0 : P.ax (5 * p + k) = 0 ∨ P.ax (5 * p + k) = 1 ∨ P.ax (5 * p + k) = 2 ∨ P.ax (5 * p + k) = 3 ∨ P.ax (5 * p + k) = 4 ∨ P.ax (5 * p + k) = 5 ∨ P.ax (5 * p + k) = 6 ∨ P.ax (5 * p + k) = 7 ∨ P.ax (5 * p + k) = 8 ∨ P.ax (5 * p + k) = 9 ∨ P.ax (5 * p + k) = 10 ∨ P.ax (5 * p + k) = 11 := by have := ho.1; omega
            rcases h0 with w | w | w | w | w | w | w | w | w | w | w | w <;> simp [w]
        refine ⟨?_, fun x h => ?_⟩
        · show Z.rst P (Z.RF P) (5 * p + k) (Z.rfo P (Z.RF P) p A k) = Z.cst P (Z.CF P) (5 * p + k) (Z.cfo P (Z.CF P) p A k)
          rw [h1]
          funext x
          have := congrFun (e.trans e2) x
          unfold Sma.rst Sma.cst
          rw [← this]
        · change Z.cst P (Z.CF P) (5 * p + k) (Z.cfo P (Z.CF P) p A k) x = true at h
          unfold Sma.cst at h
          rw [Bool.and_eq_true] at h
          have := congrFun (e.trans e2) x
          rw [← this, Bool.and_eq_true] at h
          exact h.1.2
    refine ⟨fun a x h => ?_, fun A hA => ?_⟩
    · rw [CF_eq Z hP hp] at h
      exact (step _ (Nat.le_refl _) _ (fun x h => by rw [Bool.and_eq_true] at h; exact h.1)).2 x h
    · rw [RF_eq Z hP hp, (step _ (Nat.le_refl _) A hA).1]
      have := add_any (cfo_add (P := P) Z (Z.CF P) p (P.sc p)) (fun x => by rw [cfo_0]) (fun x h => al_s8 Z x (hA x h)) (A := A)
      rw [this]
      funext x
      unfold st8
      refine anyB_cong fun a _ => ?_
      cases q : A a with
      | false => rfl
      | true =>
        rw [CF_eq Z hP hp]
        have : (fun x => Z.al x && decide (x = a)) = fun y => decide (y = a) := funext fun y => by
          by_cases e : y = a
          · subst e; simp [hA y q]
          · simp [e]
        rw [this]
end PUR
