/-! ===== paths, and what they find, on spots ===== -/
/-- how many; the steps of a path; of a step: axis, test, path, how many conditions; of a condition: what, path, comparison, number -/
def Pat : Type := Nat × (Nat → Nat) × (Nat → Nat) × (Nat → Nat) × (Nat → Nat) × (Nat → Nat) × (Nat → Nat) × (Nat → Nat) × (Nat → Nat) × (Nat → Nat)
def Pat.n (P : Pat) : Nat := P.1
def Pat.sc (P : Pat) : Nat → Nat := P.2.1
def Pat.ax (P : Pat) : Nat → Nat := P.2.2.1
def Pat.ts (P : Pat) : Nat → Nat := P.2.2.2.1
def Pat.by (P : Pat) : Nat → Nat := P.2.2.2.2.1
def Pat.cc (P : Pat) : Nat → Nat := P.2.2.2.2.2.1
def Pat.cw (P : Pat) : Nat → Nat := P.2.2.2.2.2.2.1
def Pat.co (P : Pat) : Nat → Nat := P.2.2.2.2.2.2.2.1
def Pat.cm (P : Pat) : Nat → Nat := P.2.2.2.2.2.2.2.2.1
def Pat.cn (P : Pat) : Nat → Nat := P.2.2.2.2.2.2.2.2.2
def Pat.okS (P : Pat) (p s : Nat) : Prop := P.ax s ≤ 12 ∧ P.ts s < 14 ∧ (P.ax s = 12 → P.by s < p) ∧ P.cc s ≤ 2 ∧
  ∀ d, d < P.cc s → P.cw (2 * s + d) < 5 ∧ (2 ≤ P.cw (2 * s + d) → P.co (2 * s + d) < p) ∧ (P.cw (2 * s + d) = 0 ∨ P.cw (2 * s + d) = 4 → P.cm (2 * s + d) < 3 ∧ P.cn (2 * s + d) < 1000)
def Pat.wf (P : Pat) : Prop := P.n ≤ 20 ∧ (∀ p, p < P.n → P.sc p ≤ 5) ∧ ∀ p k, p < P.n → k < P.sc p → P.okS p (5 * p + k)
/-- the class's rows of paths -/
def PC (c : tc_C) (b : Nat) (P : Pat) : Prop :=
  c.2.2.1 b 9 = nI P.n ∧ (∀ p, p < 20 → c.1 (b + 2) p = nI (if p < P.n then P.sc p else 0)) ∧
  (∀ p k, p < P.n → k < P.sc p → c.1 (b + 4) (5 * p + k) = nI (P.ax (5 * p + k)) ∧ c.1 (b + 6) (5 * p + k) = nI (P.ts (5 * p + k)) ∧ (P.ax (5 * p + k) = 12 → c.1 (b + 8) (5 * p + k) = nI (P.by (5 * p + k)))) ∧
  (∀ p k, p < 20 → k < 5 → c.1 (b + 10) (5 * p + k) = nI (if p < P.n ∧ k < P.sc p then P.cc (5 * p + k) else 0)) ∧
  (∀ p k d, p < P.n → k < P.sc p → d < P.cc (5 * p + k) → c.1 (b + 12) (2 * (5 * p + k) + d) = nI (P.cw (2 * (5 * p + k) + d)) ∧
    (2 ≤ P.cw (2 * (5 * p + k) + d) → c.1 (b + 14) (2 * (5 * p + k) + d) = nI (P.co (2 * (5 * p + k) + d))) ∧
    (P.cw (2 * (5 * p + k) + d) = 0 ∨ P.cw (2 * (5 * p + k) + d) = 4 → c.1 (b + 16) (2 * (5 * p + k) + d) = nI (P.cm (2 * (5 * p + k) + d)) ∧ c.1 (b + 18) (2 * (5 * p + k) + d) = nI (P.cn (2 * (5 * p + k) + d))))
/-- the reference's rows of paths -/
def PR (c : tc_C) (P : Pat) : Prop :=
  c.2.2.1 155 24 = nI P.n ∧ (∀ p, p < P.n → c.1 175 p = nI (P.sc p)) ∧
  (∀ p k, p < P.n → k < P.sc p → c.1 176 (3 * (5 * p + k)) = nI (P.ax (5 * p + k)) ∧ c.1 176 (3 * (5 * p + k) + 1) = nI (P.ts (5 * p + k)) ∧ (P.ax (5 * p + k) = 12 → c.1 176 (3 * (5 * p + k) + 2) = nI (P.by (5 * p + k))) ∧ c.1 177 (5 * p + k) = nI (P.cc (5 * p + k))) ∧
  (∀ p k d, p < P.n → k < P.sc p → d < P.cc (5 * p + k) → c.1 178 (4 * (2 * (5 * p + k) + d)) = nI (P.cw (2 * (5 * p + k) + d)) ∧
    (2 ≤ P.cw (2 * (5 * p + k) + d) → c.1 178 (4 * (2 * (5 * p + k) + d) + 1) = nI (P.co (2 * (5 * p + k) + d))) ∧
    (P.cw (2 * (5 * p + k) + d) = 0 ∨ P.cw (2 * (5 * p + k) + d) = 4 → c.1 178 (4 * (2 * (5 * p + k) + d) + 2) = nI (P.cm (2 * (5 * p + k) + d)) ∧ c.1 178 (4 * (2 * (5 * p + k) + d) + 3) = nI (P.cn (2 * (5 * p + k) + d))))
/-- the axes that look back -/
def bck (a : Nat) : Bool := decide (a = 2 ∨ a = 5 ∨ a = 6 ∨ a = 8 ∨ a = 10)
/-- a member's place, from 1 on -/
def plc (back : Bool) (X : Nat → Bool) (j : Nat) : Nat := if back then fb_ct X 64 - fb_ct X j else fb_ct X j + 1
/-- what of nodes counts for a condition by truth -/
def Doc.cq (D : Doc) (P : Pat) (Q : Nat → Bool) (x l : Nat) : Bool := if P.cw x = 4 then decide (D.val Q l ≠ -1) && agr (D.val Q l) (nI (P.cm x)) (nI (P.cn x)) else true
def Doc.cnd (D : Doc) (P : Pat) (Q : Nat → Bool) (T : Nat → Nat → Nat → Bool) (back : Bool) (x : Nat) (X : Nat → Bool) (j : Nat) : Bool :=
  if P.cw x = 0 then X j && agr (nI (plc back X j)) (nI (P.cm x)) (nI (P.cn x)) else
  if P.cw x = 1 then X j && agr (nI (plc back X j)) 0 (nI (fb_ct X 64)) else
  X j && (anyB (fun l => T (P.co x) j l && D.cq P Q x l) D.n == decide (P.cw x ≠ 3))
def Doc.cds (D : Doc) (P : Pat) (Q : Nat → Bool) (T : Nat → Nat → Nat → Bool) (s : Nat) (X : Nat → Bool) : Nat → Nat → Bool
  | 0 => X
  | d + 1 => D.cnd P Q T (bck (P.ax s)) (2 * s + d) (D.cds P Q T s X d)
/-- what a step's axis and test lead to -/
def Doc.bas (D : Doc) (P : Pat) (Q : Nat → Bool) (T : Nat → Nat → Nat → Bool) (s i j : Nat) : Bool := ((if P.ax s = 12 then D.rep (T (P.by s)) i j else D.ax (P.ax s) i j) && (decide (j < D.n) && D.tst (P.ts s) j)) && Q j
def Doc.stp (D : Doc) (P : Pat) (Q : Nat → Bool) (T : Nat → Nat → Nat → Bool) (s i : Nat) : Nat → Bool := D.cds P Q T s (D.bas P Q T s i) (P.cc s)
/-- what the first k steps of a path find -/
def Doc.fr (D : Doc) (P : Pat) (Q : Nat → Bool) (T : Nat → Nat → Nat → Bool) (p i : Nat) : Nat → Nat → Bool
  | 0 => fun j => Q j && decide (j = i)
  | k + 1 => fun j => anyB (fun s => D.fr P Q T p i k s && D.stp P Q T (5 * p + k) s j) D.n
def Doc.fT (D : Doc) (P : Pat) (Q : Nat → Bool) : Nat → Nat → Nat → Nat → Bool
  | 0 => fun _ _ _ => false
  | p + 1 => fun q i => if q = p then D.fr P Q (D.fT P Q p) p i (P.sc p) else D.fT P Q p q i
/-- what a path finds from a spot -/
def Doc.fnd (D : Doc) (P : Pat) (Q : Nat → Bool) (p : Nat) : Nat → Nat → Bool := D.fT P Q (p + 1) p
section PAT
variable {D : Doc} {P : Pat} {Q : Nat → Bool} {T : Nat → Nat → Nat → Bool}
theorem Doc.fT_eq (D : Doc) (P : Pat) (Q : Nat → Bool) {q : Nat} : ∀ {p : Nat}, q < p → D.fT P Q p q = D.fnd P Q q
  | 0, h => by omega
  | p + 1, h => by
    by_cases e : q = p
    · subst e; rfl
    · funext i
      show (if q = p then _ else D.fT P Q p q i) = _
      rw [if_neg e, Doc.fT_eq D P Q (show q < p by omega)]
theorem Doc.cnd_sub {back : Bool} {x : Nat} {X : Nat → Bool} {j : Nat} (h : D.cnd P Q T back x X j = true) : X j = true := by
  unfold Doc.cnd at h
  split at h
  · rw [Bool.and_eq_true] at h; exact h.1
  · split at h <;> (rw [Bool.and_eq_true] at h; exact h.1)
theorem Doc.cds_sub {s : Nat} {X : Nat → Bool} {j : Nat} : ∀ {d : Nat}, D.cds P Q T s X d j = true → X j = true
  | 0, h => h
  | d + 1, h => Doc.cds_sub (d := d) (Doc.cnd_sub h)
theorem Doc.bas_in {s i j : Nat} (h : D.bas P Q T s i j = true) : j < D.n ∧ Q j = true := by
  unfold Doc.bas at h
  simp only [Bool.and_eq_true, decide_eq_true_eq] at h
  exact ⟨h.1.2.1, h.2⟩
theorem Doc.stp_in {s i j : Nat} (h : D.stp P Q T s i j = true) : j < D.n ∧ Q j = true := Doc.bas_in (Doc.cds_sub h)
theorem Doc.fr_in (hQ : ∀ j, Q j = true → j < D.n) {p i j : Nat} : ∀ {k : Nat}, D.fr P Q T p i k j = true → j < D.n ∧ Q j = true
  | 0, h => by
    change (Q j && decide (j = i)) = true at h
    rw [Bool.and_eq_true] at h
    exact ⟨hQ j h.1, h.1⟩
  | k + 1, h => by
    obtain ⟨s, _, h⟩ := anyB_iff.mp h
    rw [Bool.and_eq_true] at h
    exact Doc.stp_in h.2
theorem Doc.fT_in (hQ : ∀ j, Q j = true → j < D.n) {q i j : Nat} : ∀ {p : Nat}, D.fT P Q p q i j = true → j < D.n ∧ Q j = true
  | 0, h => by cases h
  | p + 1, h => by
    change (if q = p then D.fr P Q (D.fT P Q p) p i (P.sc p) else D.fT P Q p q i) j = true at h
    split at h
    · exact Doc.fr_in hQ h
    · exact Doc.fT_in hQ h
theorem Doc.fnd_in (hQ : ∀ j, Q j = true → j < D.n) {p i j : Nat} (h : D.fnd P Q p i j = true) : j < D.n ∧ Q j = true := Doc.fT_in hQ h
/-- the steps of a path by the tables below it -/
theorem Doc.cnd_cong {T' : Nat → Nat → Nat → Bool} {back : Bool} {x : Nat} {X : Nat → Bool} (h : 2 ≤ P.cw x → T (P.co x) = T' (P.co x)) : D.cnd P Q T back x X = D.cnd P Q T' back x X := by
  funext j
  unfold Doc.cnd
  by_cases e : 2 ≤ P.cw x
  · rw [h e]
  · by_cases a : P.cw x = 0
    · rw [if_pos a, if_pos a]
    · have b : P.cw x = 1 := by omega
      rw [if_neg a, if_pos b, if_neg a, if_pos b]
theorem Doc.stp_cong {T' : Nat → Nat → Nat → Bool} {p s i : Nat} (ho : P.okS p s) (h : ∀ q, q < p → T q = T' q) : D.stp P Q T s i = D.stp P Q T' s i := by
  obtain ⟨-, -, h3, -, h5⟩ := ho
  have hb : D.bas P Q T s i = D.bas P Q T' s i := by
    funext j
    unfold Doc.bas
    by_cases e : P.ax s = 12
    · rw [if_pos e, if_pos e, h _ (h3 e)]
    · rw [if_neg e, if_neg e]
  unfold Doc.stp
  rw [hb]
  have : ∀ d, d ≤ P.cc s → D.cds P Q T s (D.bas P Q T' s i) d = D.cds P Q T' s (D.bas P Q T' s i) d := by
    intro d
    induction d with
    | zero => intro _; rfl
    | succ d ih =>
      intro hd
      show D.cnd P Q T _ _ _ = D.cnd P Q T' _ _ _
      rw [ih (by omega)]
      exact Doc.cnd_cong (fun e => h _ ((h5 d (by omega)).2.1 e))
  exact this _ (Nat.le_refl _)
/-- a path finds by its own steps over what the lower ones find -/
theorem Doc.fnd_eq (hP : P.wf) {p i : Nat} (hp : p < P.n) : ∀ k, k ≤ P.sc p → D.fr P Q (D.fT P Q p) p i k = D.fr P Q (D.fnd P Q) p i k
  | 0, _ => rfl
  | k + 1, hk => by
    funext j
    show anyB _ _ = anyB _ _
    refine anyB_cong fun s _ => ?_
    rw [Doc.fnd_eq hP hp k (by omega), Doc.stp_cong (hP.2.2 p k hp (by omega)) (fun q hq => Doc.fT_eq D P Q hq)]
theorem Doc.fnd_fr (hP : P.wf) {p i : Nat} (hp : p < P.n) : D.fnd P Q p i = D.fr P Q (D.fnd P Q) p i (P.sc p) := by
  show (if p = p then _ else _) = _
  rw [if_pos rfl, Doc.fnd_eq hP hp _ (Nat.le_refl _)]
end PAT
