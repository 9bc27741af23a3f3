/-! ===== what each part of the relation reads ===== -/
/-- nothing but this has changed -/
def Wr (w1 w2 : Nat → Prop) (w3 w4 : Nat → Nat → Prop) (c c' : tc_C) : Prop := (∀ a, ¬ w1 a → c'.1 a = c.1 a) ∧ (∀ a, ¬ w2 a → c'.2.1 a = c.2.1 a) ∧ (∀ q k, ¬ w3 q k → c'.2.2.1 q k = c.2.2.1 q k) ∧ (∀ q k, ¬ w4 q k → c'.2.2.2.1 q k = c.2.2.2.1 q k) ∧ c'.2.2.2.2 = c.2.2.2.2
abbrev nT1 (a : Nat) : Prop := (4 ≤ a ∧ a ≤ 38 ∧ a ≠ 34) ∨ (156 ≤ a ∧ a ≤ 165 ∧ a ≠ 162)
abbrev nT2 (a : Nat) : Prop := 14 ≤ a ∧ a ≤ 22
abbrev nT3 (q k : Nat) : Prop := (q = 2 ∧ k = 12) ∨ (q = 1 ∧ k = 10) ∨ (q = 155 ∧ (k = 1 ∨ k = 11))
abbrev nT4 (q _k : Nat) : Prop := q = 2
abbrev nN1 (a : Nat) : Prop := a = 34 ∨ a = 162
abbrev nN3 (q k : Nat) : Prop := (q = 0 ∧ k = 14) ∨ (q = 155 ∧ k = 10)
abbrev nU1 (a : Nat) : Prop := (82 ≤ a ∧ a ≤ 95) ∨ a = 167
abbrev nU3 (q k : Nat) : Prop := (q = 81 ∧ k = 11) ∨ (q = 155 ∧ k = 15)
abbrev nP1 (a : Nat) : Prop := (99 ≤ a ∧ a ≤ 116) ∨ (175 ≤ a ∧ a ≤ 178)
abbrev nP3 (q k : Nat) : Prop := q = 98 ∨ (q = 155 ∧ k = 24)
abbrev nR1 (a : Nat) : Prop := a = 181
abbrev nR3 (q k : Nat) : Prop := (q = 0 ∧ k = 17) ∨ (q = 155 ∧ (k = 32 ∨ k = 33))
abbrev nR4 (q k : Nat) : Prop := q = 0 ∧ k = 15
abbrev nS1 (a : Nat) : Prop := (132 ≤ a ∧ a ≤ 139) ∨ (183 ≤ a ∧ a ≤ 187)
abbrev nS3 (q k : Nat) : Prop := (q = 131 ∧ (k = 8 ∨ k = 10)) ∨ (q = 155 ∧ k = 42)
abbrev nX1 (a : Nat) : Prop := a = 190
abbrev nX4 (q k : Nat) : Prop := q = 0 ∧ k = 16
abbrev nV1 (a : Nat) : Prop := a = 150 ∨ a = 152 ∨ a = 191 ∨ a = 192
abbrev nV2 (a : Nat) : Prop := a = 193
abbrev nV3 (q k : Nat) : Prop := (q = 0 ∧ k = 13) ∨ (q = 155 ∧ k = 45)
abbrev nK1 (a : Nat) : Prop := a = 156 ∨ (194 ≤ a ∧ a ≤ 199) ∨ 206 ≤ a
abbrev nK2 (a : Nat) : Prop := 206 ≤ a
abbrev nK3 (q k : Nat) : Prop := (q = 0 ∧ k = 12) ∨ (q = 155 ∧ k = 49) ∨ 206 ≤ q
abbrev nK4 (q _k : Nat) : Prop := 206 ≤ q
section WRL
variable {w1 w2 v1 v2 : Nat → Prop} {w3 w4 v3 v4 : Nat → Nat → Prop} {S : tq_H} {c c' c'' : tc_C} {di : DI} {D : Doc} {m : Nat} {U : Ups} {P : Pat} {H : Nat → Bool} {Z : Sma} {X : Nat → Bool} {nw : Nat} {ed : Option Nat} {nv : Nat} {vt mv : Nat → Nat} {Dv : Nat → Doc} {b : Nat}
theorem Wr.refl (c : tc_C) : Wr w1 w2 w3 w4 c c := ⟨fun _ _ => rfl, fun _ _ => rfl, fun _ _ _ => rfl, fun _ _ _ => rfl, rfl⟩
theorem Wr.trans (h : Wr w1 w2 w3 w4 c c') (g : Wr w1 w2 w3 w4 c' c'') : Wr w1 w2 w3 w4 c c'' := ⟨fun a z => (g.1 a z).trans (h.1 a z), fun a z => (g.2.1 a z).trans (h.2.1 a z), fun a k z => (g.2.2.1 a k z).trans (h.2.2.1 a k z), fun a k z => (g.2.2.2.1 a k z).trans (h.2.2.2.1 a k z), g.2.2.2.2.trans h.2.2.2.2⟩
theorem Wr.mono (h : Wr w1 w2 w3 w4 c c') (h1 : ∀ a, w1 a → v1 a) (h2 : ∀ a, w2 a → v2 a) (h3 : ∀ q k, w3 q k → v3 q k) (h4 : ∀ q k, w4 q k → v4 q k) : Wr v1 v2 v3 v4 c c' :=
  ⟨fun a z => h.1 a fun y => z (h1 a y), fun a z => h.2.1 a fun y => z (h2 a y), fun a k z => h.2.2.1 a k fun y => z (h3 a k y), fun a k z => h.2.2.2.1 a k fun y => z (h4 a k y), h.2.2.2.2⟩
theorem Wr.I {a : Nat} (f : Nat → Int32) (h : w1 a) : Wr w1 w2 w3 w4 c (tc_I c a f) := ⟨fun x hx => by rw [tc_I1, tc_un]; exact fun e => hx (e ▸ h), fun _ _ => rfl, fun _ _ _ => rfl, fun _ _ _ => rfl, rfl⟩
theorem Wr.J {a : Nat} (f : Nat → Int64) (h : w2 a) : Wr w1 w2 w3 w4 c (tc_J c a f) := ⟨fun _ _ => rfl, fun x hx => by rw [tc_J2, tc_un]; exact fun e => hx (e ▸ h), fun _ _ _ => rfl, fun _ _ _ => rfl, rfl⟩
theorem Wr.F {q k : Nat} (x : Int32) (h : w3 q k) : Wr w1 w2 w3 w4 c (tc_F c q k x) := by
  refine ⟨fun _ _ => rfl, fun _ _ => rfl, fun q' k' hx => ?_, fun _ _ _ => rfl, rfl⟩
  rw [tc_F3]
  by_cases e : q' = q
  · subst e
    rw [tc_us]
    by_cases e2 : k' = k
    · subst e2; exact absurd h hx
    · rw [tc_un _ _ e2]
  · rw [tc_un _ _ e]
theorem Wr.G {q k : Nat} (x : Int64) (h : w4 q k) : Wr w1 w2 w3 w4 c (tc_G c q k x) := by
  refine ⟨fun _ _ => rfl, fun _ _ => rfl, fun _ _ _ => rfl, fun q' k' hx => ?_, rfl⟩
  rw [tc_G4]
  by_cases e : q' = q
  · subst e
    rw [tc_us]
    by_cases e2 : k' = k
    · subst e2; exact absurd h hx
    · rw [tc_un _ _ e2]
  · rw [tc_un _ _ e]
theorem Sc.wr (h : Sc c c') : Wr s1 s2 s3 s4 c c' := h
theorem GT.wr (h : GT c D m) (k : Wr w1 w2 w3 w4 c c') (d1 : ∀ a, nT1 a → ¬ w1 a) (d2 : ∀ a, nT2 a → ¬ w2 a) (d3 : ∀ q k, nT3 q k → ¬ w3 q k) (d4 : ∀ q k, nT4 q k → ¬ w4 q k) : GT c' D m := by
  obtain ⟨k1, k2, k3, k4, k5⟩ := k
  obtain ⟨h1, h2, h3, h4, h5⟩ := h
  refine ⟨h1, h2.pt (fun a _ _ => k1 a (d1 a (by omega))) (fun a _ _ => k2 a (d2 a (by omega))) (k3 2 12 (d3 _ _ (by omega))) (k4 2 10 (d4 _ _ (by omega))) (k4 2 11 (d4 _ _ (by omega))), ?_, ?_, ?_⟩
  · unfold Nod
    rw [k1 (1 + 23) (d1 _ (by omega)), k1 (1 + 25) (d1 _ (by omega)), k1 (1 + 27) (d1 _ (by omega)), k1 (1 + 29) (d1 _ (by omega)), k1 (1 + 31) (d1 _ (by omega)), k1 (1 + 35) (d1 _ (by omega)), k1 (1 + 37) (d1 _ (by omega)), k3 1 10 (d3 _ _ (by omega))]
    exact h3
  · unfold RTree
    rw [k1 163 (d1 _ (by omega)), k1 156 (d1 _ (by omega)), k1 157 (d1 _ (by omega)), k1 158 (d1 _ (by omega)), k1 159 (d1 _ (by omega)), k1 160 (d1 _ (by omega)), k1 161 (d1 _ (by omega)), k3 155 1 (d3 _ _ (by omega))]
    exact h4
  · unfold ROrd
    rw [k1 164 (d1 _ (by omega)), k1 165 (d1 _ (by omega)), k3 155 11 (d3 _ _ (by omega))]
    exact h5
theorem GN.wr (h : GN c D) (k : Wr w1 w2 w3 w4 c c') (d1 : ∀ a, nN1 a → ¬ w1 a) (d3 : ∀ q k, nN3 q k → ¬ w3 q k) : GN c' D := by
  obtain ⟨k1, k2, k3, k4, k5⟩ := k
  unfold GN
  rw [k1 34 (d1 _ (by omega)), k1 162 (d1 _ (by omega)), k3 0 14 (d3 _ _ (by omega)), k3 155 10 (d3 _ _ (by omega))]
  exact h
theorem GU.wr (h : GU c D m U) (k : Wr w1 w2 w3 w4 c c') (d1 : ∀ a, nU1 a → ¬ w1 a) (d3 : ∀ q k, nU3 q k → ¬ w3 q k) : GU c' D m U := by
  obtain ⟨k1, k2, k3, k4, k5⟩ := k
  obtain ⟨h1, h2, h3⟩ := h
  refine ⟨?_, ?_, h3⟩
  · unfold UC
    rw [k3 81 11 (d3 _ _ (by omega)), k1 (81 + 2) (d1 _ (by omega)), k1 (81 + 4) (d1 _ (by omega)), k1 (81 + 6) (d1 _ (by omega)), k1 (81 + 8) (d1 _ (by omega)), k1 (81 + 10) (d1 _ (by omega)), k1 (81 + 12) (d1 _ (by omega)), k1 (81 + 14) (d1 _ (by omega))]
    exact h1
  · unfold UR
    rw [k1 167 (d1 _ (by omega)), k3 155 15 (d3 _ _ (by omega))]
    exact h2
theorem GP.wr (h : GP c P) (k : Wr w1 w2 w3 w4 c c') (d1 : ∀ a, nP1 a → ¬ w1 a) (d3 : ∀ q k, nP3 q k → ¬ w3 q k) : GP c' P := by
  obtain ⟨k1, k2, k3, k4, k5⟩ := k
  obtain ⟨h1, h2, h3⟩ := h
  refine ⟨?_, ?_, h3⟩
  · unfold PC at h1 ⊢
    rw [k3 98 9 (d3 _ _ (by omega)), k1 (98 + 2) (d1 _ (by omega)), k1 (98 + 4) (d1 _ (by omega)), k1 (98 + 6) (d1 _ (by omega)), k1 (98 + 8) (d1 _ (by omega)), k1 (98 + 10) (d1 _ (by omega)), k1 (98 + 12) (d1 _ (by omega)), k1 (98 + 14) (d1 _ (by omega)), k1 (98 + 16) (d1 _ (by omega)), k1 (98 + 18) (d1 _ (by omega))]
    exact h1
  · unfold PR at h2 ⊢
    rw [k3 155 24 (d3 _ _ (by omega)), k1 175 (d1 _ (by omega)), k1 176 (d1 _ (by omega)), k1 177 (d1 _ (by omega)), k1 178 (d1 _ (by omega))]
    exact h2
theorem GR.wr (h : GR c P H) (k : Wr w1 w2 w3 w4 c c') (d1 : ∀ a, nR1 a → ¬ w1 a) (d3 : ∀ q k, nR3 q k → ¬ w3 q k) (d4 : ∀ q k, nR4 q k → ¬ w4 q k) : GR c' P H := by
  obtain ⟨k1, k2, k3, k4, k5⟩ := k
  unfold GR RHid
  rw [k4 0 15 (d4 _ _ (by omega)), k3 155 33 (d3 _ _ (by omega)), k1 181 (d1 _ (by omega)), k3 0 17 (d3 _ _ (by omega)), k3 155 32 (d3 _ _ (by omega))]
  exact h
theorem GS.wr (h : GS c Z) (k : Wr w1 w2 w3 w4 c c') (d1 : ∀ a, nS1 a → ¬ w1 a) (d3 : ∀ q k, nS3 q k → ¬ w3 q k) : GS c' Z := by
  obtain ⟨k1, k2, k3, k4, k5⟩ := k
  unfold GS SC SR
  rw [k1 133 (d1 _ (by omega)), k1 135 (d1 _ (by omega)), k1 137 (d1 _ (by omega)), k1 139 (d1 _ (by omega)), k3 131 8 (d3 _ _ (by omega)), k1 183 (d1 _ (by omega)), k1 186 (d1 _ (by omega)), k1 185 (d1 _ (by omega)), k1 187 (d1 _ (by omega)), k1 184 (d1 _ (by omega)), k3 131 10 (d3 _ _ (by omega)), k3 155 42 (d3 _ _ (by omega))]
  exact h
theorem GX.wr (h : GX c X) (k : Wr w1 w2 w3 w4 c c') (d1 : ∀ a, nX1 a → ¬ w1 a) (d4 : ∀ q k, nX4 q k → ¬ w4 q k) : GX c' X := by
  obtain ⟨k1, k2, k3, k4, k5⟩ := k
  unfold GX
  rw [k4 0 16 (d4 _ _ (by omega)), k1 190 (d1 _ (by omega))]
  exact h
theorem GV.wr (h : GV c D P nw) (k : Wr w1 w2 w3 w4 c c') (d1 : ∀ a, nV1 a → ¬ w1 a) (d2 : ∀ a, nV2 a → ¬ w2 a) (d3 : ∀ q k, nV3 q k → ¬ w3 q k) : GV c' D P nw := by
  obtain ⟨k1, k2, k3, k4, k5⟩ := k
  unfold GV
  rw [k3 0 13 (d3 _ _ (by omega)), k3 155 45 (d3 _ _ (by omega)), k1 150 (d1 _ (by omega)), k1 191 (d1 _ (by omega)), k2 193 (d2 _ (by omega)), k1 152 (d1 _ (by omega)), k1 192 (d1 _ (by omega))]
  exact h
theorem GK.wr (hS : SH S ed nv vt) (h : GK c m nv vt mv Dv) (k : Wr w1 w2 w3 w4 c c') (d1 : ∀ a, nK1 a → ¬ w1 a) (d2 : ∀ a, nK2 a → ¬ w2 a) (d3 : ∀ q k, nK3 q k → ¬ w3 q k) (d4 : ∀ q k, nK4 q k → ¬ w4 q k) : GK c' m nv vt mv Dv := by
  obtain ⟨k1, k2, k3, k4, k5⟩ := k
  obtain ⟨h1, h2, h3, h4, h5⟩ := h
  obtain ⟨-, -, -, -, -, -, -, -, hv, -⟩ := hS
  refine ⟨by rw [k3 0 12 (d3 _ _ (by omega))]; exact h1, by rw [k3 155 49 (d3 _ _ (by omega))]; exact h2, h3, by rw [k5]; exact h4, fun j hj => ?_⟩
  obtain ⟨a1, a2, a3, a4, a5, a6, a7, a8⟩ := h5 j hj
  obtain ⟨-, v1, v2⟩ := hv j hj
  refine ⟨by rw [k5]; exact a1, a2, a3.pt (fun a _ _ => k1 a (d1 _ (by omega))) (fun a _ _ => k2 a (d2 _ (by omega))) (k3 _ _ (d3 _ _ (by omega))) (k4 _ _ (d4 _ _ (by omega))) (k4 _ _ (d4 _ _ (by omega))), a4.pt (fun a _ _ => k1 a (d1 _ (by omega))) (k3 _ _ (d3 _ _ (by omega))), by rw [k1 (vt j + 33) (d1 _ (by omega))]; exact a5, a6.pt (fun a _ _ => k1 a (d1 _ (by omega))), a7, by rw [k1 156 (d1 _ (by omega))]; exact a8⟩
theorem GE.wr (hS : SH S ed nv vt) (h : GE c ed nv Dv di.1) (k : Wr w1 w2 w3 w4 c c') (d1 : ∀ a, nK2 a → ¬ w1 a) : GE c' ed nv Dv di.1 := by
  obtain ⟨k1, k2, k3, k4, k5⟩ := k
  obtain ⟨-, -, -, -, -, -, -, -, -, -, he⟩ := hS
  intro q hq
  obtain ⟨-, e1, -⟩ := he q hq
  rw [k1 (q + 14) (d1 _ (by omega))]
  exact h q hq
abbrev nQ1 (a : Nat) : Prop := 206 ≤ a ∨ a = 34
abbrev nQ3 (q k : Nat) : Prop := q = 131 ∧ k = 10
theorem GQ.wr {n : Nat} (h : GQ c D Z n) (k : Wr w1 w2 w3 w4 c c') (d1 : ¬ w1 34) (d3 : ¬ w3 131 10) : GQ c' D Z n := by
  obtain ⟨k1, k2, k3, k4, k5⟩ := k
  unfold GQ at h ⊢
  rw [k3 131 10 d3, k1 34 d1]
  exact h
theorem GEQ.wr (hS : SH S ed nv vt) (h : GEQ c ed nv Dv di D Z U) (k : Wr w1 w2 w3 w4 c c') (d1 : ∀ a, nQ1 a → ¬ w1 a) (d3 : ∀ q k, nQ3 q k → ¬ w3 q k) : GEQ c' ed nv Dv di D Z U :=
  ⟨GE.wr hS h.1 k (fun a ha => d1 a (by omega)), h.2.1.wr k (d1 34 (by omega)) (d3 131 10 (by omega)), h.2.2⟩
/-- the finders, where nothing of theirs was written -/
theorem GF.wr (h : GF c D P H) (hl : Lay c' 1 D) (hp : PC c' 98 P) (k : Wr w1 w2 w3 w4 c c') (d1 : ∀ a, 117 ≤ a ∧ a ≤ 130 → ¬ w1 a) (d2 : ∀ a, 117 ≤ a ∧ a ≤ 130 → ¬ w2 a) (d3 : ∀ q k, (117 ≤ q ∧ q ≤ 130) ∨ (q = 0 ∧ k = 18) → ¬ w3 q k) (d4 : ∀ q (k : Nat), 117 ≤ q ∧ q ≤ 130 → ¬ w4 q k) : GF c' D P H := by
  obtain ⟨k1, k2, k3, k4, k5⟩ := k
  obtain ⟨⟨r, r1, ⟨-, -, f3, f4⟩, f5, f6⟩, st, s1, s2⟩ := h
  refine ⟨⟨r, r1, ⟨hl, hp, by rw [k4 _ _ (d4 _ _ (by omega))]; exact f3, fun i hi => by rw [k1 _ (d1 _ (by omega))]; exact f4 i hi⟩, by rw [k3 _ _ (d3 _ _ (by omega))]; exact f5, fun p i hp hi => by rw [k2 _ (d2 _ (by omega))]; exact f6 p i hp hi⟩, st, by rw [k3 _ _ (d3 _ _ (by omega))]; exact s1, fun hs => ?_⟩
  obtain ⟨r, r1, ⟨-, -, f3, f4⟩, f5, f6⟩ := s2 hs
  exact ⟨r, r1, ⟨hl, hp, by rw [k4 _ _ (d4 _ _ (by omega))]; exact f3, fun i hi => by rw [k1 _ (d1 _ (by omega))]; exact f4 i hi⟩, by rw [k3 _ _ (d3 _ _ (by omega))]; exact f5, fun p i hp hi => by rw [k2 _ (d2 _ (by omega))]; exact f6 p i hp hi⟩
/-! ===== one more update ===== -/
abbrev u1 (a : Nat) : Prop := (82 ≤ a ∧ a ≤ 97) ∨ a = 167
abbrev u2 (a : Nat) : Prop := a = 205
abbrev u3 (q k : Nat) : Prop := (q = 81 ∧ k = 11) ∨ (q = 155 ∧ (k = 15 ∨ k = 0))
abbrev u4 (_q _k : Nat) : Prop := False
def Ups.push (U : Ups) (w t p l kd : Nat) (nm ct : Int32) : Ups := (U.n + 1, fun j => if j = U.n then w else U.uw j, fun j => if j = U.n then t else U.ut j, fun j => if j = U.n then p else U.up j, fun j => if j = U.n then l else U.ul j, fun j => if j = U.n then kd else U.uk j, fun j => if j = U.n then nm else U.un j, fun j => if j = U.n then ct else U.uc j)
theorem Cor.upd {U' : Ups} (h : Cor S c di D m U P H Z X nw ed nv vt mv Dv) (hF : GF c D P H) (k : Wr u1 u2 u3 u4 c c') (hu : GU c' D m U') : Cor S c' (di.1, di.2.1, U'.n) D m U' P H Z X nw ed nv vt mv Dv ∧ GF c' D P H := by
  obtain ⟨h0, h1, h2, h3, h4, h5, h6, h7, h8, h9, h10⟩ := h
  have g1 := h1.wr k (fun a _ => by omega) (fun a _ => by omega) (fun q k _ => by omega) (fun _ _ _ z => z)
  have g4 := h4.wr k (fun a _ => by omega) (fun q k _ => by omega)
  exact ⟨⟨h0, g1, h2.wr k (fun a _ => by omega) (fun q k _ => by omega), hu, g4, h5.wr k (fun a _ => by omega) (fun q k _ => by omega) (fun _ _ _ z => z), h6.wr k (fun a _ => by omega) (fun q k _ => by omega), h7.wr k (fun a _ => by omega) (fun _ _ _ z => z), h8.wr k (fun a _ => by omega) (fun a _ => by omega) (fun q k _ => by omega), h9.wr h0 k (fun a _ => by omega) (fun a _ => by omega) (fun q k _ => by omega) (fun _ _ _ z => z), ⟨(h10.wr h0 k (fun a _ => by omega) (fun q k _ => by omega)).1, (h10.wr h0 k (fun a _ => by omega) (fun q k _ => by omega)).2.1, rfl⟩⟩,
    hF.wr g1.2.1 g4.1 k (fun a _ => by omega) (fun a _ => by omega) (fun q k _ => by omega) (fun _ _ _ z => z)⟩
end WRL
