/-! ===== paths that grow ===== -/
def Pat.addP (P : Pat) : Pat := (P.n + 1, fun p => if p = P.n then 0 else P.sc p, P.2.2)
def Pat.addS (P : Pat) (p a t y : Nat) : Pat := (P.n, fun q => if q = p then P.sc p + 1 else P.sc q, fun x => if x = 5 * p + P.sc p then a else P.ax x, fun x => if x = 5 * p + P.sc p then t else P.ts x, fun x => if x = 5 * p + P.sc p then y else P.by x, fun x => if x = 5 * p + P.sc p then 0 else P.cc x, P.2.2.2.2.2.2)
/-- the last step of a path, its next condition -/
def Pat.ls (P : Pat) (p : Nat) : Nat := 5 * p + (P.sc p - 1)
def Pat.lc (P : Pat) (p : Nat) : Nat := 2 * P.ls p + P.cc (P.ls p)
def Pat.addC (P : Pat) (p w o m n : Nat) : Pat := (P.n, P.sc, P.ax, P.ts, P.by, fun x => if x = P.ls p then P.cc x + 1 else P.cc x, fun x => if x = P.lc p then w else P.cw x, fun x => if x = P.lc p then o else P.co x, fun x => if x = P.lc p then m else P.cm x, fun x => if x = P.lc p then n else P.cn x)
def Pat.agr (P P' : Pat) (r : Nat) : Prop := P'.sc r = P.sc r ∧ ∀ k, k < P.sc r → (P'.ax (5 * r + k) = P.ax (5 * r + k) ∧ P'.ts (5 * r + k) = P.ts (5 * r + k) ∧ P'.by (5 * r + k) = P.by (5 * r + k) ∧ P'.cc (5 * r + k) = P.cc (5 * r + k)) ∧
  ∀ d, d < P.cc (5 * r + k) → P'.cw (2 * (5 * r + k) + d) = P.cw (2 * (5 * r + k) + d) ∧ P'.co (2 * (5 * r + k) + d) = P.co (2 * (5 * r + k) + d) ∧ P'.cm (2 * (5 * r + k) + d) = P.cm (2 * (5 * r + k) + d) ∧ P'.cn (2 * (5 * r + k) + d) = P.cn (2 * (5 * r + k) + d)
section GRW
variable {S : tq_H} {c c' : tc_C} {P P' : Pat} {D : Doc} {Q H : Nat → Bool} {p q r k d a t y w o m n : Nat}
theorem cds_cg {T : Nat → Nat → Nat → Bool} {s : Nat} {X : Nat → Bool} (h1 : P'.ax s = P.ax s) : ∀ n, (∀ d, d < n → P'.cw (2 * s + d) = P.cw (2 * s + d) ∧ P'.co (2 * s + d) = P.co (2 * s + d) ∧ P'.cm (2 * s + d) = P.cm (2 * s + d) ∧ P'.cn (2 * s + d) = P.cn (2 * s + d)) → D.cds P' Q T s X n = D.cds P Q T s X n := by
  intro n
  induction n with
  | zero => intro _; rfl
  | succ n ih =>
    intro h
    obtain ⟨a1, a2, a3, a4⟩ := h n (Nat.lt_succ_self n)
    show D.cnd P' Q T (bck (P'.ax s)) (2 * s + n) (D.cds P' Q T s X n) = D.cnd P Q T (bck (P.ax s)) (2 * s + n) (D.cds P Q T s X n)
    rw [ih fun d hd => h d (by omega), h1]
    funext j
    unfold Doc.cnd Doc.cq
    rw [a1, a2, a3, a4]
theorem fr_cg {T : Nat → Nat → Nat → Bool} {i : Nat} (h : P.agr P' r) : ∀ k, k ≤ P.sc r → D.fr P' Q T r i k = D.fr P Q T r i k := by
  intro k
  induction k with
  | zero => intro _; rfl
  | succ k ih =>
    intro hk
    obtain ⟨⟨a1, a2, a3, a4⟩, a5⟩ := h.2 k (by omega)
    funext j
    show anyB (fun s => D.fr P' Q T r i k s && D.stp P' Q T (5 * r + k) s j) D.n = anyB (fun s => D.fr P Q T r i k s && D.stp P Q T (5 * r + k) s j) D.n
    rw [ih (by omega)]
    refine anyB_cong fun s _ => ?_
    have : D.stp P' Q T (5 * r + k) s = D.stp P Q T (5 * r + k) s := by
      unfold Doc.stp
      have hb : D.bas P' Q T (5 * r + k) s = D.bas P Q T (5 * r + k) s := by
        funext j; unfold Doc.bas; rw [a1, a2, a3]
      rw [hb, a4]
      exact cds_cg a1 _ a5
    rw [this]
theorem fT_cg : ∀ p, (∀ r, r < p → P.agr P' r) → D.fT P' Q p = D.fT P Q p := by
  intro p
  induction p with
  | zero => intro _; rfl
  | succ p ih =>
    intro h
    funext q i
    show (if q = p then D.fr P' Q (D.fT P' Q p) p i (P'.sc p) else D.fT P' Q p q i) = (if q = p then D.fr P Q (D.fT P Q p) p i (P.sc p) else D.fT P Q p q i)
    rw [ih fun r hr => h r (by omega), (h p (Nat.lt_succ_self p)).1, fr_cg (h p (Nat.lt_succ_self p)) _ (Nat.le_refl _)]
theorem fnd_cg (h : ∀ r, r ≤ q → P.agr P' r) : D.fnd P' Q q = D.fnd P Q q := by
  unfold Doc.fnd
  rw [fT_cg (q + 1) fun r hr => h r (by omega)]
theorem sn_cg (hH : ∀ q, H q = true → q < P.n ∧ q < P'.n ∧ ∀ r, r ≤ q → P.agr P' r) : D.sn P' H = D.sn P H := by
  have hg : D.gone P' H = D.gone P H := by
    funext j
    unfold Doc.gone
    refine Bool.ext_iff ?_
    rw [anyB_iff, anyB_iff]
    constructor
    · rintro ⟨q, _, h2⟩
      rw [Bool.and_eq_true] at h2
      obtain ⟨a1, a2, a3⟩ := hH q h2.1
      exact ⟨q, a1, by rw [Bool.and_eq_true, ← fnd_cg a3]; exact h2⟩
    · rintro ⟨q, _, h2⟩
      rw [Bool.and_eq_true] at h2
      obtain ⟨a1, a2, a3⟩ := hH q h2.1
      exact ⟨q, a2, by rw [Bool.and_eq_true, fnd_cg a3]; exact h2⟩
  funext j
  unfold Doc.sn
  rw [hg]
/-- a new path -/
theorem addP_agr (h : r < P.n) : P.agr P.addP r := ⟨if_neg (by omega), fun k _ => ⟨⟨rfl, rfl, rfl, rfl⟩, fun d _ => ⟨rfl, rfl, rfl, rfl⟩⟩⟩
theorem addP_wf (h : P.wf) (hn : P.n < 20) : P.addP.wf := by
  obtain ⟨h1, h2, h3⟩ := h
  refine ⟨hn, fun p hp => ?_, fun p k hp hk => ?_⟩
  · show (if p = P.n then 0 else P.sc p) ≤ 5
    have hp : p < P.n + 1 := hp
    split
    · omega
    · exact h2 p (by omega)
  · have hk : k < (if p = P.n then 0 else P.sc p) := hk
    have hp : p < P.n + 1 := hp
    split at hk
    · omega
    · exact h3 p k (by omega) hk
theorem PC.addP (h : PC c 98 P) (e : c'.2.2.1 98 9 = nI (P.n + 1)) (e1 : c'.1 = c.1) : PC c' 98 P.addP := by
  obtain ⟨h1, h2, h3, h4, h5⟩ := h
  have sc : ∀ p, p < P.n → P.addP.sc p = P.sc p := fun p hp => if_neg (by omega)
  have scn : P.addP.sc P.n = 0 := if_pos rfl
  have nn : P.addP.n = P.n + 1 := rfl
  have cs : ∀ p k, p < P.addP.n → k < P.addP.sc p → p < P.n ∧ k < P.sc p := fun p k hp hk => by
    have hp : p < P.n + 1 := hp
    by_cases q : p = P.n
    · rw [q, scn] at hk; omega
    · rw [sc p (by omega)] at hk; exact ⟨by omega, hk⟩
  refine ⟨e, fun p hp => ?_, fun p k hp hk => ?_, fun p k hp hk => ?_, fun p k d hp hk hd => ?_⟩
  · rw [e1, h2 p hp, nn]
    congr 1
    rcases Nat.lt_trichotomy p P.n with z | z | z
    · rw [if_pos z, if_pos (by omega), sc p z]
    · rw [if_neg (by omega), if_pos (by omega), z, scn]
    · rw [if_neg (by omega), if_neg (by omega)]
  · obtain ⟨a1, a2⟩ := cs p k hp hk
    rw [e1]; exact h3 p k a1 a2
  · rw [e1, h4 p k hp hk]
    congr 1
    by_cases z : p < P.n ∧ k < P.sc p
    · rw [if_pos z, if_pos ⟨by rw [nn]; omega, by rw [sc p z.1]; exact z.2⟩]; rfl
    · rw [if_neg z, if_neg fun y => z (cs p k y.1 y.2)]
  · obtain ⟨a1, a2⟩ := cs p k hp hk
    rw [e1]; exact h5 p k d a1 a2 hd
theorem PR.addP (h : PR c P) (e : c'.2.2.1 155 24 = nI (P.n + 1)) (e1 : c'.1 175 = upd (c.1 175) P.n 0) (e2 : c'.1 176 = c.1 176) (e3 : c'.1 177 = c.1 177) (e4 : c'.1 178 = c.1 178) : PR c' P.addP := by
  obtain ⟨h1, h2, h3, h4⟩ := h
  have sc : ∀ p, p < P.n → P.addP.sc p = P.sc p := fun p hp => if_neg (by omega)
  have scn : P.addP.sc P.n = 0 := if_pos rfl
  have cs : ∀ p k, p < P.addP.n → k < P.addP.sc p → p < P.n ∧ k < P.sc p := fun p k hp hk => by
    have hp : p < P.n + 1 := hp
    by_cases q : p = P.n
    · rw [q, scn] at hk; omega
    · rw [sc p (by omega)] at hk; exact ⟨by omega, hk⟩
  refine ⟨e, fun p hp => ?_, fun p k hp hk => ?_, fun p k d hp hk hd => ?_⟩
  · have hp : p < P.n + 1 := hp
    rw [e1]
    by_cases q : p = P.n
    · rw [q, upd_s, scn]; rfl
    · rw [upd_n _ _ q, sc p (by omega)]; exact h2 p (by omega)
  · obtain ⟨a1, a2⟩ := cs p k hp hk
    rw [e2, e3]; exact h3 p k a1 a2
  · obtain ⟨a1, a2⟩ := cs p k hp hk
    rw [e4]; exact h4 p k d a1 a2 hd
/-- a new step -/
theorem addS_agr (h : P.wf) (hp : p < P.n) (h5 : P.sc p < 5) (hr : r < P.n) (hne : r ≠ p) : P.agr (P.addS p a t y) r := by
  refine ⟨if_neg hne, fun k hk => ?_⟩
  have := h.2.1 r hr
  have hx : ¬ 5 * r + k = 5 * p + P.sc p := by omega
  exact ⟨⟨if_neg hx, if_neg hx, if_neg hx, if_neg hx⟩, fun d _ => ⟨rfl, rfl, rfl, rfl⟩⟩
theorem addS_at : (P.addS p a t y).sc p = P.sc p + 1 ∧ (P.addS p a t y).ax (5 * p + P.sc p) = a ∧ (P.addS p a t y).ts (5 * p + P.sc p) = t ∧ (P.addS p a t y).by (5 * p + P.sc p) = y ∧ (P.addS p a t y).cc (5 * p + P.sc p) = 0 := ⟨if_pos rfl, if_pos rfl, if_pos rfl, if_pos rfl, if_pos rfl⟩
theorem addS_off {x : Nat} (hx : x ≠ 5 * p + P.sc p) : (P.addS p a t y).ax x = P.ax x ∧ (P.addS p a t y).ts x = P.ts x ∧ (P.addS p a t y).by x = P.by x ∧ (P.addS p a t y).cc x = P.cc x := ⟨if_neg hx, if_neg hx, if_neg hx, if_neg hx⟩
theorem addS_cs (h : P.wf) (hq : q < P.n) (hk : k < (P.addS p a t y).sc q) (h5 : P.sc p < 5) : (q = p ∧ k = P.sc p) ∨ (k < P.sc q ∧ 5 * q + k ≠ 5 * p + P.sc p) := by
  have := h.2.1 q hq
  by_cases e : q = p
  · subst e
    rw [addS_at.1] at hk
    by_cases e2 : k = P.sc q
    · exact .inl ⟨rfl, e2⟩
    · exact .inr ⟨by omega, by omega⟩
  · have hk : k < (if q = p then P.sc p + 1 else P.sc q) := hk
    rw [if_neg e] at hk
    exact .inr ⟨hk, by omega⟩
theorem addS_wf (h : P.wf) (hp : p < P.n) (h5 : P.sc p < 5) (ha : a ≤ 12) (ht : t < 14) (hy : a = 12 → y < p) : (P.addS p a t y).wf := by
  obtain ⟨h1, h2, h3⟩ := id h
  refine ⟨h1, fun q hq => ?_, fun q k hq hk => ?_⟩
  · show (if q = p then P.sc p + 1 else P.sc q) ≤ 5
    split
    · omega
    · exact h2 q hq
  · rcases addS_cs h hq hk h5 with ⟨rfl, rfl⟩ | ⟨z1, z2⟩
    · obtain ⟨b0, b1, b2, b3, b4⟩ := addS_at (P := P) (p := q) (a := a) (t := t) (y := y)
      unfold Pat.okS
      rw [b1, b2, b3, b4]
      exact ⟨ha, ht, hy, by omega, fun d hd => absurd hd (Nat.not_lt_zero _)⟩
    · obtain ⟨b1, b2, b3, b4⟩ := addS_off (a := a) (t := t) (y := y) z2
      unfold Pat.okS
      rw [b1, b2, b3, b4]
      exact h3 q k hq z1
theorem PC.addS (h : PC c 98 P) (hP : P.wf) (hp : p < P.n) (h5 : P.sc p < 5) (e : c'.2.2.1 98 9 = c.2.2.1 98 9) (e2 : c'.1 100 = upd (c.1 100) p (nI (P.sc p + 1))) (e4 : c'.1 102 = upd (c.1 102) (5 * p + P.sc p) (nI a)) (e6 : c'.1 104 = upd (c.1 104) (5 * p + P.sc p) (nI t))
    {yI : Int32} (e8 : c'.1 106 = upd (c.1 106) (5 * p + P.sc p) yI) (hy : a = 12 → yI = nI y) (er : ∀ x, 107 ≤ x → x ≤ 116 → c'.1 x = c.1 x) : PC c' 98 (P.addS p a t y) := by
  obtain ⟨h1, h2, h3, h4, h6⟩ := h
  have nn : (P.addS p a t y).n = P.n := rfl
  have hp20 := hP.1
  refine ⟨by rw [e]; exact h1, fun q hq => ?_, fun q k hq hk => ?_, fun q k hq hk => ?_, fun q k d hq hk hd => ?_⟩
  · show c'.1 100 q = _
    rw [e2, nn]
    by_cases z : q = p
    · rw [z, upd_s, if_pos hp, addS_at.1]
    · rw [upd_n _ _ z]
      rw [show (P.addS p a t y).sc q = P.sc q from if_neg z]
      exact h2 q hq
  · show c'.1 102 _ = _ ∧ c'.1 104 _ = _ ∧ (_ → c'.1 106 _ = _)
    rw [e4, e6, e8]
    rcases addS_cs hP hq hk h5 with ⟨rfl, rfl⟩ | ⟨z1, z2⟩
    · obtain ⟨b0, b1, b2, b3, b4⟩ := addS_at (P := P) (p := q) (a := a) (t := t) (y := y)
      rw [upd_s, upd_s, upd_s, b1, b2, b3]
      exact ⟨rfl, rfl, hy⟩
    · obtain ⟨b1, b2, b3, b4⟩ := addS_off (a := a) (t := t) (y := y) z2
      rw [upd_n _ _ z2, upd_n _ _ z2, upd_n _ _ z2, b1, b2, b3]
      exact h3 q k hq z1
  · rw [er (98 + 10) (by omega) (by omega), h4 q k hq hk, nn]
    congr 1
    by_cases z : q < P.n ∧ k < (P.addS p a t y).sc q
    · rw [if_pos z]
      rcases addS_cs hP z.1 z.2 h5 with ⟨rfl, rfl⟩ | ⟨z1, z2⟩
      · rw [if_neg (fun w => Nat.lt_irrefl _ w.2), addS_at.2.2.2.2]
      · rw [if_pos ⟨z.1, z1⟩, (addS_off z2).2.2.2]
    · rw [if_neg z, if_neg fun w => z ⟨w.1, ?_⟩]
      show k < (if q = p then P.sc p + 1 else P.sc q)
      split
      · rename_i e; rw [e] at w; omega
      · exact w.2
  · rw [er (98 + 12) (by omega) (by omega), er (98 + 14) (by omega) (by omega), er (98 + 16) (by omega) (by omega), er (98 + 18) (by omega) (by omega)]
    rcases addS_cs hP hq hk h5 with ⟨rfl, rfl⟩ | ⟨z1, z2⟩
    · rw [addS_at.2.2.2.2] at hd; omega
    · rw [(addS_off z2).2.2.2] at hd
      exact h6 q k d hq z1 hd
theorem PR.addS (h : PR c P) (hP : P.wf) (hp : p < P.n) (h5 : P.sc p < 5) (e : c'.2.2.1 155 24 = c.2.2.1 155 24) (e1 : c'.1 175 = upd (c.1 175) p (nI (P.sc p + 1))) {yI : Int32} (e2 : c'.1 176 = upd (upd (upd (c.1 176) (3 * (5 * p + P.sc p)) (nI a)) (3 * (5 * p + P.sc p) + 1) (nI t)) (3 * (5 * p + P.sc p) + 2) yI)
    (hy : a = 12 → yI = nI y) (e3 : c'.1 177 = upd (c.1 177) (5 * p + P.sc p) 0) (e4 : c'.1 178 = c.1 178) : PR c' (P.addS p a t y) := by
  obtain ⟨h1, h2, h3, h4⟩ := h
  refine ⟨by rw [e]; exact h1, fun q hq => ?_, fun q k hq hk => ?_, fun q k d hq hk hd => ?_⟩
  · rw [e1]
    by_cases z : q = p
    · rw [z, upd_s, addS_at.1]
    · rw [upd_n _ _ z, show (P.addS p a t y).sc q = P.sc q from if_neg z]
      exact h2 q hq
  · rw [e2, e3]
    rcases addS_cs hP hq hk h5 with ⟨rfl, rfl⟩ | ⟨z1, z2⟩
    · obtain ⟨b0, b1, b2, b3, b4⟩ := addS_at (P := P) (p := q) (a := a) (t := t) (y := y)
      rw [b1, b2, b3, b4]
      simp (disch := omega) only [upd_s, upd_n]
      exact ⟨trivial, trivial, hy, rfl⟩
    · obtain ⟨b1, b2, b3, b4⟩ := addS_off (a := a) (t := t) (y := y) z2
      rw [b1, b2, b3, b4]
      simp (disch := omega) only [upd_n]
      exact h3 q k hq z1
  · rw [e4]
    rcases addS_cs hP hq hk h5 with ⟨rfl, rfl⟩ | ⟨z1, z2⟩
    · rw [addS_at.2.2.2.2] at hd; omega
    · rw [(addS_off z2).2.2.2] at hd
      exact h4 q k d hq z1 hd
end GRW
