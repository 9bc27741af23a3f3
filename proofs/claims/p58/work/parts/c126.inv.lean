/-! ===== what always holds between the class and the reference ===== -/
def edV (ed : Option Nat) : Value := match ed with
  | none => .null
  | some q => .ref q
def tc_Tq (S : tq_H) (ed : Option Nat) : Prop :=
  S.2 0 = .inl (10, [.ref 1, .ref 41, .ref 81, .ref 98, .ref 117, .ref 124, .ref 131, .ref 148, .ref 149, .ref 151, .ref 153, edV ed, .int 0, .int 0, .int 0, .long 0, .long 0, .int 0, .int 0]) ∧
  (∃ g, S.2 148 = .inr (3, (6, .inr (.inr (.inr (.inr g)))))) ∧ tc_Row S 149 150 5 ∧ tc_Row S 151 152 5 ∧ tc_Set S 153 154 5 ∧ ∃ g, S.2 205 = .inr (2, (1, .inr (.inl g)))
theorem tc_slE {S : tq_H} {c : tc_C} {q n : Nat} (h : ∃ g : Nat → Int64, S.2 q = .inr (2, (n, .inr (.inl g)))) {k : Nat} (x : Int64) (hk : k < n) (hn : n < 2 ^ 31) : tq_sl (tc_mk S c) q (nI k) x = some (tc_mk S (tc_J c q (vp_updL (c.2.1 q) k x))) := tc_slN h x hk hn
theorem tc_Tq.f {S : tq_H} {ed : Option Nat} (h : tc_Tq S ed) :
  (∀ c, tq_is (tc_mk S c) 0 10 = some ()) ∧ (∀ c, tq_gr (tc_mk S c) 0 10 0 = some 1) ∧ (∀ c, tq_gr (tc_mk S c) 0 10 1 = some 41) ∧ (∀ c, tq_gr (tc_mk S c) 0 10 2 = some 81) ∧ (∀ c, tq_gr (tc_mk S c) 0 10 3 = some 98) ∧ (∀ c, tq_gr (tc_mk S c) 0 10 4 = some 117) ∧ (∀ c, tq_gr (tc_mk S c) 0 10 5 = some 124) ∧ (∀ c, tq_gr (tc_mk S c) 0 10 6 = some 131) ∧ (∀ c, tq_gr (tc_mk S c) 0 10 7 = some 148) ∧ (∀ c, tq_gr (tc_mk S c) 0 10 8 = some 149) ∧ (∀ c, tq_gr (tc_mk S c) 0 10 9 = some 151) ∧ (∀ c, tq_gr (tc_mk S c) 0 10 10 = some 153) ∧
  (∀ c, tq_gi (tc_mk S c) 0 10 12 = some (c.2.2.1 0 12)) ∧ (∀ c, tq_gi (tc_mk S c) 0 10 13 = some (c.2.2.1 0 13)) ∧ (∀ c, tq_gi (tc_mk S c) 0 10 14 = some (c.2.2.1 0 14)) ∧ (∀ c, tq_gl (tc_mk S c) 0 10 15 = some (c.2.2.2.1 0 15)) ∧ (∀ c, tq_gl (tc_mk S c) 0 10 16 = some (c.2.2.2.1 0 16)) ∧ (∀ c, tq_gi (tc_mk S c) 0 10 17 = some (c.2.2.1 0 17)) ∧ (∀ c, tq_gi (tc_mk S c) 0 10 18 = some (c.2.2.1 0 18)) ∧
  (∀ c x, tq_pf (tc_mk S c) 0 10 12 (.int x) = some (tc_mk S (tc_F c 0 12 x))) ∧ (∀ c x, tq_pf (tc_mk S c) 0 10 13 (.int x) = some (tc_mk S (tc_F c 0 13 x))) ∧ (∀ c x, tq_pf (tc_mk S c) 0 10 14 (.int x) = some (tc_mk S (tc_F c 0 14 x))) ∧ (∀ c x, tq_pf (tc_mk S c) 0 10 15 (.long x) = some (tc_mk S (tc_G c 0 15 x))) ∧ (∀ c x, tq_pf (tc_mk S c) 0 10 16 (.long x) = some (tc_mk S (tc_G c 0 16 x))) ∧ (∀ c x, tq_pf (tc_mk S c) 0 10 17 (.int x) = some (tc_mk S (tc_F c 0 17 x))) ∧ (∀ c x, tq_pf (tc_mk S c) 0 10 18 (.int x) = some (tc_mk S (tc_F c 0 18 x))) ∧
  (∀ c, tq_is (tc_mk S c) 149 5 = some ()) ∧ (∀ c i, f_X5_get 149 i (tc_mk S c) = some (rg 5 (c.1 150) i)) ∧ (∀ c i x, f_X5_set 149 i x (tc_mk S c) = some (tc_mk S (tc_I c 150 (rs 5 (c.1 150) i x)))) ∧
  (∀ c, tq_is (tc_mk S c) 151 5 = some ()) ∧ (∀ c i, f_X5_get 151 i (tc_mk S c) = some (rg 5 (c.1 152) i)) ∧ (∀ c i x, f_X5_set 151 i x (tc_mk S c) = some (tc_mk S (tc_I c 152 (rs 5 (c.1 152) i x)))) ∧
  (∀ c, tq_is (tc_mk S c) 153 7 = some ()) ∧ (∀ c i, f_X7_get 153 i (tc_mk S c) = some (sg 5 (c.2.1 154) i)) ∧ (∀ c i x, f_X7_set 153 i x (tc_mk S c) = some (tc_mk S (tc_J c 154 (ss 5 (c.2.1 154) i x)))) ∧
  (∀ c x, tq_sl (tc_mk S c) 205 0 x = some (tc_mk S (tc_J c 205 (vp_updL (c.2.1 205) 0 x)))) ∧ (∀ c, tq_aj (tc_mk S c) 205 0 = some (c.2.1 205 0)) := by
  obtain ⟨h1, h2, h3, h4, h5, h6⟩ := h
  exact ⟨fun _ => tc_is h1, fun _ => tc_gr h1 rfl, fun _ => tc_gr h1 rfl, fun _ => tc_gr h1 rfl, fun _ => tc_gr h1 rfl, fun _ => tc_gr h1 rfl, fun _ => tc_gr h1 rfl, fun _ => tc_gr h1 rfl, fun _ => tc_gr h1 rfl, fun _ => tc_gr h1 rfl, fun _ => tc_gr h1 rfl, fun _ => tc_gr h1 rfl,
    fun _ => tc_gi h1 rfl, fun _ => tc_gi h1 rfl, fun _ => tc_gi h1 rfl, fun _ => tc_gl h1 rfl, fun _ => tc_gl h1 rfl, fun _ => tc_gi h1 rfl, fun _ => tc_gi h1 rfl,
    fun _ _ => tc_pfI h1 rfl, fun _ _ => tc_pfI h1 rfl, fun _ _ => tc_pfI h1 rfl, fun _ _ => tc_pfL h1 rfl, fun _ _ => tc_pfL h1 rfl, fun _ _ => tc_pfI h1 rfl, fun _ _ => tc_pfI h1 rfl,
    h3.f.1, h3.f.2.1, h3.f.2.2.1, h4.f.1, h4.f.2.1, h4.f.2.2.1, h5.f.1, h5.f.2.1, h5.f.2.2.1, fun _ x => tc_slN (k := 0) h6 x (by decide) (by decide), fun _ => tc_ajN (k := 0) h6 (by decide) (by decide)⟩
/-- the shapes of all objects -/
def SH (S : tq_H) (ed : Option Nat) (nv : Nat) (vt : Nat → Nat) : Prop :=
  tc_Tq S ed ∧ (tc_Tree S 1 ∧ tc_Tree S 41) ∧ tc_Upd S 81 ∧ tc_Pth S 98 ∧ (tc_Fnd S 117 ∧ tc_Fnd S 124) ∧ tc_Sch S 131 ∧ tc_Mod S 205 ∧ 206 ≤ S.1 ∧
  (∀ k, k < nv → tc_Tree S (vt k) ∧ 206 ≤ vt k ∧ vt k + 40 ≤ S.1) ∧ (∀ j k, j < k → k < nv → vt j + 40 ≤ vt k) ∧
  (∀ q, ed = some q → tc_Edi S q ∧ 206 ≤ q ∧ q + 15 ≤ S.1 ∧ ∀ k, k < nv → q + 15 ≤ vt k ∨ vt k + 40 ≤ q)
def GT (c : tc_C) (D : Doc) (m : Nat) : Prop := (D.wf ∧ D.ao) ∧ Lay c 1 D ∧ Nod c 1 D m ∧ RTree c D m ∧ ROrd c D
def GN (c : tc_C) (D : Doc) : Prop := (∀ j, j < D.n → D.kd j ≠ 2 → c.1 34 (D.ord j) = c.1 162 (D.ord j)) ∧ (∀ j, j < D.n → D.kd j = 2 → c.1 34 (D.ord j) = -1) ∧ c.2.2.1 0 14 = c.2.2.1 155 10
def GU (c : tc_C) (D : Doc) (m : Nat) (U : Ups) : Prop := UC c 81 U ∧ UR c U ∧ U.wf m D
def GP (c : tc_C) (P : Pat) : Prop := PC c 98 P ∧ PR c P ∧ P.wf
def GF (c : tc_C) (D : Doc) (P : Pat) (H : Nat → Bool) : Prop :=
  (∃ r, r ≤ P.n ∧ FT c 117 D P D.al r) ∧ ∃ st, c.2.2.1 0 18 = bI st ∧ (st = false → ∃ r, r ≤ P.n ∧ FT c 124 D P (D.sn P H) r)
def GR (c : tc_C) (P : Pat) (H : Nat → Bool) : Prop := c.2.2.2.1 0 15 = mkS H ∧ (∀ p, H p = true → p < P.n) ∧ RHid c H P.n ∧ ∃ rd, c.2.2.1 0 17 = bI rd ∧ c.2.2.1 155 32 = bI rd
def GS (c : tc_C) (Z : Sma) : Prop := SC c Z ∧ SR c Z ∧ ∃ st, c.2.2.1 131 10 = bI st ∧ c.2.2.1 155 42 = bI st
def GX (c : tc_C) (X : Nat → Bool) : Prop := c.2.2.2.1 0 16 = mkS X ∧ (∀ x, X x = true → x < 8) ∧ ∀ x, x < 8 → c.1 190 x = bI (X x)
def GV (c : tc_C) (D : Doc) (P : Pat) (nw : Nat) : Prop := c.2.2.1 0 13 = nI nw ∧ c.2.2.1 155 45 = nI nw ∧ nw ≤ 5 ∧ (∀ k, k < nw → ∃ p, p < P.n ∧ c.1 150 k = nI p ∧ c.1 191 k = nI p ∧ c.2.1 193 k = mkS (D.nodesOf (D.fnd P D.al p 0))) ∧ ∀ k, k < nw → c.1 152 k = c.1 192 k
def GK (c : tc_C) (m nv : Nat) (vt mv : Nat → Nat) (Dv : Nat → Doc) : Prop :=
  c.2.2.1 0 12 = nI nv ∧ c.2.2.1 155 49 = nI nv ∧ nv ≤ 6 ∧ (∀ k, nv ≤ k → k < 6 → c.2.2.2.2 148 k = none) ∧
  ∀ k, k < nv → c.2.2.2.2 148 k = some (vt k) ∧ ((Dv k).wf ∧ (Dv k).ao) ∧ Lay c (vt k) (Dv k) ∧ Nod c (vt k) (Dv k) (mv k) ∧ (∀ j, j < (Dv k).n → (Dv k).kd j = 2 → c.1 (vt k + 33) ((Dv k).ord j) = -1) ∧ KV c k (Dv k) ∧ mv k ≤ m ∧ ∀ j, j < (Dv k).n → c.1 156 ((Dv k).ord j) = (Dv k).kd j
/-- the distance, the acts so far, the updates in the list -/
abbrev DI : Type := (Doc → Doc → Int32) × Nat × Nat
def GE (c : tc_C) (ed : Option Nat) (nv : Nat) (Dv : Nat → Doc) (di : Doc → Doc → Int32) : Prop :=
  ∀ q, ed = some q → ∀ a b, a < 6 → b < 6 → c.1 (q + 14) (6 * a + b) = -1 ∨ (a < nv ∧ b < nv ∧ c.1 (q + 14) (6 * a + b) = di (Dv a) (Dv b))
/-- the numbers rise in the order, from 16 on -/
def Rise (M : Nat → Int32) (D : Doc) (k : Nat) : Prop :=
  ∃ f : Nat → Nat, (∀ j, j < D.n → D.kd j ≠ 2 → M (D.ord j) = nI (f j) ∧ f j ≤ 1000 + 1000 * k) ∧ (∀ i j, i < j → j < D.n → D.kd i ≠ 2 → D.kd j ≠ 2 → f i < f j) ∧ f 0 = 16
/-- a strict schema holds of the tree; the numbers rise; so many acts so far -/
def GQ (c : tc_C) (D : Doc) (Z : Sma) (k : Nat) : Prop := (c.2.2.1 131 10 = bI true → D.ty Z 0 0 = true) ∧ Rise (c.1 34) D k
def GEQ (c : tc_C) (ed : Option Nat) (nv : Nat) (Dv : Nat → Doc) (di : DI) (D : Doc) (Z : Sma) (U : Ups) : Prop := GE c ed nv Dv di.1 ∧ GQ c D Z di.2.1 ∧ U.n = di.2.2
def Cor (S : tq_H) (c : tc_C) (di : DI) (D : Doc) (m : Nat) (U : Ups) (P : Pat) (H : Nat → Bool) (Z : Sma) (X : Nat → Bool) (nw : Nat) (ed : Option Nat) (nv : Nat) (vt mv : Nat → Nat) (Dv : Nat → Doc) : Prop :=
  SH S ed nv vt ∧ GT c D m ∧ GN c D ∧ GU c D m U ∧ GP c P ∧ GR c P H ∧ GS c Z ∧ GX c X ∧ GV c D P nw ∧ GK c m nv vt mv Dv ∧ GEQ c ed nv Dv di D Z U
/-- what calls may use as they like -/
abbrev s1 (a : Nat) : Prop := (41 ≤ a ∧ a ≤ 80) ∨ a = 97 ∨ (117 ≤ a ∧ a ≤ 130) ∨ (140 ≤ a ∧ a ≤ 147) ∨ a = 166 ∨ (168 ≤ a ∧ a ≤ 174) ∨ a = 182 ∨ a = 188 ∨ a = 189 ∨ (200 ≤ a ∧ a ≤ 204)
abbrev s2 (a : Nat) : Prop := (41 ≤ a ∧ a ≤ 80) ∨ (117 ≤ a ∧ a ≤ 130) ∨ a = 154 ∨ a = 179 ∨ a = 180 ∨ a = 205
abbrev s3 (q k : Nat) : Prop := (41 ≤ q ∧ q ≤ 80) ∨ (117 ≤ q ∧ q ≤ 130) ∨ (q = 131 ∧ k = 9) ∨ (q = 155 ∧ k = 0) ∨ (q = 0 ∧ k = 18)
abbrev s4 (q _k : Nat) : Prop := (41 ≤ q ∧ q ≤ 81) ∨ (117 ≤ q ∧ q ≤ 130) ∨ q = 155
def Sc (c c' : tc_C) : Prop := (∀ a, ¬ s1 a → c'.1 a = c.1 a) ∧ (∀ a, ¬ s2 a → c'.2.1 a = c.2.1 a) ∧ (∀ q k, ¬ s3 q k → c'.2.2.1 q k = c.2.2.1 q k) ∧ (∀ q k, ¬ s4 q k → c'.2.2.2.1 q k = c.2.2.2.1 q k) ∧ c'.2.2.2.2 = c.2.2.2.2
section SCR
variable {S : tq_H} {c c' c'' : tc_C} {di : DI} {D : Doc} {m : Nat} {U : Ups} {P : Pat} {H : Nat → Bool} {Z : Sma} {X : Nat → Bool} {nw : Nat} {ed : Option Nat} {nv : Nat} {vt mv : Nat → Nat} {Dv : Nat → Doc} {b : Nat}
theorem Sc.refl (c : tc_C) : Sc c c := ⟨fun _ _ => rfl, fun _ _ => rfl, fun _ _ _ => rfl, fun _ _ _ => rfl, rfl⟩
theorem Sc.trans (h : Sc c c') (g : Sc c' c'') : Sc c c'' := ⟨fun a z => (g.1 a z).trans (h.1 a z), fun a z => (g.2.1 a z).trans (h.2.1 a z), fun a k z => (g.2.2.1 a k z).trans (h.2.2.1 a k z), fun a k z => (g.2.2.2.1 a k z).trans (h.2.2.2.1 a k z), g.2.2.2.2.trans h.2.2.2.2⟩
theorem Sc.I {a : Nat} (f : Nat → Int32) (h : s1 a) : Sc c (tc_I c a f) := ⟨fun x hx => by rw [tc_I1, tc_un]; exact fun e => hx (e ▸ h), fun _ _ => rfl, fun _ _ _ => rfl, fun _ _ _ => rfl, rfl⟩
theorem Sc.J {a : Nat} (f : Nat → Int64) (h : s2 a) : Sc c (tc_J c a f) := ⟨fun _ _ => rfl, fun x hx => by rw [tc_J2, tc_un]; exact fun e => hx (e ▸ h), fun _ _ _ => rfl, fun _ _ _ => rfl, rfl⟩
theorem Sc.F {q k : Nat} (x : Int32) (h : s3 q k) : Sc c (tc_F c q k x) := by
  refine ⟨fun _ _ => rfl, fun _ _ => rfl, fun q' k' hx => ?_, fun _ _ _ => rfl, rfl⟩
  rw [tc_F3]
  by_cases e : q' = q
  · subst e
    rw [tc_us]
    by_cases e2 : k' = k
    · subst e2; exact absurd h hx
    · rw [tc_un _ _ e2]
  · rw [tc_un _ _ e]
theorem Sc.G {q k : Nat} (x : Int64) (h : s4 q k) : Sc c (tc_G c q k x) := by
  refine ⟨fun _ _ => rfl, fun _ _ => rfl, fun _ _ _ => rfl, fun q' k' hx => ?_, rfl⟩
  rw [tc_G4]
  by_cases e : q' = q
  · subst e
    rw [tc_us]
    by_cases e2 : k' = k
    · subst e2; exact absurd h hx
    · rw [tc_un _ _ e2]
  · rw [tc_un _ _ e]
theorem Lay.pt (h : Lay c b D) (h1 : ∀ a, b + 3 ≤ a → a ≤ b + 11 → c'.1 a = c.1 a) (h2 : ∀ a, b + 13 ≤ a → a ≤ b + 21 → c'.2.1 a = c.2.1 a) (h3 : c'.2.2.1 (b + 1) 12 = c.2.2.1 (b + 1) 12) (h4 : c'.2.2.2.1 (b + 1) 10 = c.2.2.2.1 (b + 1) 10) (h5 : c'.2.2.2.1 (b + 1) 11 = c.2.2.2.1 (b + 1) 11) : Lay c' b D := by
  unfold Lay
  rw [h1 (b + 3) (by omega) (by omega), h1 (b + 5) (by omega) (by omega), h1 (b + 7) (by omega) (by omega), h1 (b + 9) (by omega) (by omega), h1 (b + 11) (by omega) (by omega), h2 (b + 13) (by omega) (by omega), h2 (b + 15) (by omega) (by omega), h2 (b + 17) (by omega) (by omega), h2 (b + 19) (by omega) (by omega), h2 (b + 21) (by omega) (by omega), h3, h4, h5]
  exact h
theorem Nod.pt (h : Nod c b D m) (h1 : ∀ a, b + 23 ≤ a → a ≤ b + 37 → c'.1 a = c.1 a) (h3 : c'.2.2.1 b 10 = c.2.2.1 b 10) : Nod c' b D m := by
  unfold Nod
  rw [h1 (b + 23) (by omega) (by omega), h1 (b + 25) (by omega) (by omega), h1 (b + 27) (by omega) (by omega), h1 (b + 29) (by omega) (by omega), h1 (b + 31) (by omega) (by omega), h1 (b + 35) (by omega) (by omega), h1 (b + 37) (by omega) (by omega), h3]
  exact h
theorem GT.sc (h : GT c D m) (k : Sc c c') : GT c' D m := by
  obtain ⟨k1, k2, k3, k4, k5⟩ := k
  obtain ⟨h1, h2, h3, h4, h5⟩ := h
  refine ⟨h1, h2.pt (fun a _ _ => k1 a (by omega)) (fun a _ _ => k2 a (by omega)) (k3 2 12 (by omega)) (k4 2 10 (by omega)) (k4 2 11 (by omega)), h3.pt (fun a _ _ => k1 a (by omega)) (k3 1 10 (by omega)), ?_, ?_⟩
  · unfold RTree
    rw [k1 163 (by omega), k1 156 (by omega), k1 157 (by omega), k1 158 (by omega), k1 159 (by omega), k1 160 (by omega), k1 161 (by omega), k3 155 1 (by omega)]
    exact h4
  · unfold ROrd
    rw [k1 164 (by omega), k1 165 (by omega), k3 155 11 (by omega)]
    exact h5
theorem GN.sc (h : GN c D) (k : Sc c c') : GN c' D := by
  obtain ⟨k1, k2, k3, k4, k5⟩ := k
  unfold GN
  rw [k1 34 (by omega), k1 162 (by omega), k3 0 14 (by omega), k3 155 10 (by omega)]
  exact h
theorem GU.sc (h : GU c D m U) (k : Sc c c') : GU c' D m U := by
  obtain ⟨k1, k2, k3, k4, k5⟩ := k
  obtain ⟨h1, h2, h3⟩ := h
  refine ⟨?_, ?_, h3⟩
  · unfold UC
    rw [k3 81 11 (by omega), k1 (81 + 2) (by omega), k1 (81 + 4) (by omega), k1 (81 + 6) (by omega), k1 (81 + 8) (by omega), k1 (81 + 10) (by omega), k1 (81 + 12) (by omega), k1 (81 + 14) (by omega)]
    exact h1
  · unfold UR
    rw [k1 167 (by omega), k3 155 15 (by omega)]
    exact h2
theorem GP.sc (h : GP c P) (k : Sc c c') : GP c' P := by
  obtain ⟨k1, k2, k3, k4, k5⟩ := k
  obtain ⟨h1, h2, h3⟩ := h
  refine ⟨?_, ?_, h3⟩
  · unfold PC at h1 ⊢
    rw [k3 98 9 (by omega), k1 (98 + 2) (by omega), k1 (98 + 4) (by omega), k1 (98 + 6) (by omega), k1 (98 + 8) (by omega), k1 (98 + 10) (by omega), k1 (98 + 12) (by omega), k1 (98 + 14) (by omega), k1 (98 + 16) (by omega), k1 (98 + 18) (by omega)]
    exact h1
  · unfold PR at h2 ⊢
    rw [k3 155 24 (by omega), k1 175 (by omega), k1 176 (by omega), k1 177 (by omega), k1 178 (by omega)]
    exact h2
theorem GR.sc (h : GR c P H) (k : Sc c c') : GR c' P H := by
  obtain ⟨k1, k2, k3, k4, k5⟩ := k
  unfold GR RHid
  rw [k4 0 15 (by omega), k3 155 33 (by omega), k1 181 (by omega), k3 0 17 (by omega), k3 155 32 (by omega)]
  exact h
theorem GS.sc (h : GS c Z) (k : Sc c c') : GS c' Z := by
  obtain ⟨k1, k2, k3, k4, k5⟩ := k
  unfold GS SC SR
  rw [k1 133 (by omega), k1 135 (by omega), k1 137 (by omega), k1 139 (by omega), k3 131 8 (by omega), k1 183 (by omega), k1 186 (by omega), k1 185 (by omega), k1 187 (by omega), k1 184 (by omega), k3 131 10 (by omega), k3 155 42 (by omega)]
  exact h
theorem GX.sc (h : GX c X) (k : Sc c c') : GX c' X := by
  obtain ⟨k1, k2, k3, k4, k5⟩ := k
  unfold GX
  rw [k4 0 16 (by omega), k1 190 (by omega)]
  exact h
theorem GV.sc (h : GV c D P nw) (k : Sc c c') : GV c' D P nw := by
  obtain ⟨k1, k2, k3, k4, k5⟩ := k
  unfold GV
  rw [k3 0 13 (by omega), k3 155 45 (by omega), k1 150 (by omega), k1 191 (by omega), k2 193 (by omega), k1 152 (by omega), k1 192 (by omega)]
  exact h
theorem KV.pt {k : Nat} (h : KV c k D) (h1 : ∀ a, 194 ≤ a → a ≤ 199 → c'.1 a = c.1 a) : KV c' k D := by
  unfold KV
  rw [h1 194 (by omega) (by omega), h1 195 (by omega) (by omega), h1 196 (by omega) (by omega), h1 197 (by omega) (by omega), h1 198 (by omega) (by omega), h1 199 (by omega) (by omega)]
  exact h
theorem GK.sc (hS : SH S ed nv vt) (h : GK c m nv vt mv Dv) (k : Sc c c') : GK c' m nv vt mv Dv := by
  obtain ⟨k1, k2, k3, k4, k5⟩ := k
  obtain ⟨h1, h2, h3, h4, h5⟩ := h
  obtain ⟨-, -, -, -, -, -, -, -, hv, -⟩ := hS
  refine ⟨by rw [k3 0 12 (by omega)]; exact h1, by rw [k3 155 49 (by omega)]; exact h2, h3, by rw [k5]; exact h4, fun j hj => ?_⟩
  obtain ⟨a1, a2, a3, a4, a5, a6, a7, a8⟩ := h5 j hj
  obtain ⟨-, v1, v2⟩ := hv j hj
  refine ⟨by rw [k5]; exact a1, a2, a3.pt (fun a _ _ => k1 a (by omega)) (fun a _ _ => k2 a (by omega)) (k3 _ _ (by omega)) (k4 _ _ (by omega)) (k4 _ _ (by omega)), a4.pt (fun a _ _ => k1 a (by omega)) (k3 _ _ (by omega)), by rw [k1 (vt j + 33) (by omega)]; exact a5, a6.pt (fun a _ _ => k1 a (by omega)), a7, by rw [k1 156 (by omega)]; exact a8⟩
theorem GE.sc (hS : SH S ed nv vt) (h : GE c ed nv Dv di.1) (k : Sc c c') : GE c' ed nv Dv di.1 := by
  obtain ⟨k1, k2, k3, k4, k5⟩ := k
  obtain ⟨-, -, -, -, -, -, -, -, -, -, he⟩ := hS
  intro q hq
  obtain ⟨-, e1, -⟩ := he q hq
  rw [k1 (q + 14) (by omega)]
  exact h q hq
theorem GEQ.sc (hS : SH S ed nv vt) (h : GEQ c ed nv Dv di D Z U) (k : Sc c c') : GEQ c' ed nv Dv di D Z U := by
  refine ⟨GE.sc hS h.1 k, ?_, h.2.2⟩
  have h2 := h.2.1
  obtain ⟨k1, k2, k3, k4, k5⟩ := k
  unfold GQ at h2 ⊢
  rw [k3 131 10 (by omega), k1 34 (by omega)]
  exact h2
theorem Cor.sc (h : Cor S c di D m U P H Z X nw ed nv vt mv Dv) (k : Sc c c') : Cor S c' di D m U P H Z X nw ed nv vt mv Dv := by
  obtain ⟨h0, h1, h2, h3, h4, h5, h6, h7, h8, h9, h10⟩ := h
  exact ⟨h0, h1.sc k, h2.sc k, h3.sc k, h4.sc k, h5.sc k, h6.sc k, h7.sc k, h8.sc k, h9.sc h0 k, h10.sc h0 k⟩
end SCR
