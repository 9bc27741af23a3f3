/-! ===== schemas that change ===== -/
def Sma.sN (Z : Sma) (t : Nat) (x : Int32) : Sma := (upd Z.nm t x, Z.2)
def Sma.sF (Z : Sma) (t : Nat) (x : Int32) : Sma := (Z.1, upd Z.fi t x, Z.2.2)
def Sma.sR (Z : Sma) (t : Nat) (x : Int32) : Sma := (Z.1, Z.2.1, upd Z.ru t x, Z.2.2.2)
def Sma.sA (Z : Sma) (t : Nat) (x : Int32) : Sma := (Z.1, Z.2.1, Z.2.2.1, upd Z.ar t x, Z.2.2.2.2)
def Sma.sT (Z : Sma) (t : Nat) (b : Bool) : Sma := (Z.1, Z.2.1, Z.2.2.1, Z.2.2.2.1, fun s => if s = t then b else Z.tx s)
abbrev z1w (a : Nat) : Prop := (132 ≤ a ∧ a ≤ 139) ∨ (183 ≤ a ∧ a ≤ 187)
abbrev z3w (q k : Nat) : Prop := (q = 131 ∧ (k = 8 ∨ k = 10)) ∨ (q = 155 ∧ (k = 42 ∨ k = 0))
section SMC
variable {S : tq_H} {c c' c1 c2 : tc_C} {di : DI} {D : Doc} {m : Nat} {U : Ups} {P : Pat} {H : Nat → Bool} {Z Z' : Sma} {X : Nat → Bool} {nw : Nat} {ed : Option Nat} {nv : Nat} {vt mv : Nat → Nat} {Dv : Nat → Doc} {t n : Nat} {x : Int32}
theorem Cor.sma (h : Cor S c di D m U P H Z X nw ed nv vt mv Dv) (hF : GF c D P H) (k : Wr z1w u2 z3w u4 c c') (hz : GS c' Z') (hq : c'.2.2.1 131 10 = bI true → D.ty Z' 0 0 = true) : InvE di (tc_mk S c') := by
  obtain ⟨h0, h1, h2, h3, h4, h5, h6, h7, h8, h9, h10⟩ := h
  have g1 := h1.wr k (fun a _ => by omega) (fun a _ => by omega) (fun q k _ => by omega) (fun _ _ _ z => z)
  have g4 := h4.wr k (fun a _ => by omega) (fun q k _ => by omega)
  exact ⟨S, c', D, m, U, P, H, Z', X, nw, ed, nv, vt, mv, Dv, rfl, ⟨h0, g1, h2.wr k (fun a _ => by omega) (fun q k _ => by omega), h3.wr k (fun a _ => by omega) (fun q k _ => by omega), g4, h5.wr k (fun a _ => by omega) (fun q k _ => by omega) (fun _ _ _ z => z), hz, h7.wr k (fun a _ => by omega) (fun _ _ _ z => z), h8.wr k (fun a _ => by omega) (fun a _ => by omega) (fun q k _ => by omega), h9.wr h0 k (fun a _ => by omega) (fun a _ => by omega) (fun q k _ => by omega) (fun _ _ _ z => z), ⟨GE.wr h0 h10.1 k (fun a _ => by omega), ⟨hq, by rw [k.1 34 (by omega)]; exact h10.2.1.2⟩, h10.2.2⟩⟩,
    hF.wr g1.2.1 g4.1 k (fun a _ => by omega) (fun a _ => by omega) (fun q k _ => by omega) (fun _ _ _ z => z)⟩
theorem upd_eq {f g : Nat → Int32} (h : ∀ j, j < n → f j = g j) : ∀ j, j < n → upd f t x j = upd g t x j := by
  intro j hj
  by_cases e : j = t
  · subst e; rw [upd_s, upd_s]
  · rw [upd_n _ _ e, upd_n _ _ e, h j hj]
/-- off the schemas' rows -/
theorem GS.all (h : GS c Z) (e1 : ∀ j, j < 6 → c'.1 133 j = Z'.nm j) (e2 : ∀ j, j < 6 → c'.1 135 j = Z'.fi j) (e3 : ∀ j, j < 48 → c'.1 137 j = Z'.ru j) (e4 : ∀ j, j < 144 → c'.1 139 j = Z'.ar j) (e5 : ∀ j, j < 6 → bt (c'.2.2.1 131 8) j = Z'.tx j)
    (r1 : ∀ j, j < 6 → c'.1 183 j = Z'.nm j) (r2 : ∀ j, j < 6 → c'.1 186 j = Z'.fi j) (r3 : ∀ j, j < 48 → c'.1 185 j = Z'.ru j) (r4 : ∀ j, j < 144 → c'.1 187 j = Z'.ar j) (r5 : ∀ j, j < 6 → c'.1 184 j = bI (Z'.tx j))
    (a1 : c'.2.2.1 131 10 = c.2.2.1 131 10) (a2 : c'.2.2.1 155 42 = c.2.2.1 155 42) : GS c' Z' := by
  obtain ⟨-, -, st, b1, b2⟩ := h
  exact ⟨⟨e1, e2, e3, e4, e5⟩, ⟨r1, r2, r3, r4, r5⟩, st, by rw [a1]; exact b1, by rw [a2]; exact b2⟩
theorem Cor.gs (h : Cor S c di D m U P H Z X nw ed nv vt mv Dv) : GS c Z := h.2.2.2.2.2.2.1
theorem Cor.sch (h : Cor S c di D m U P H Z X nw ed nv vt mv Dv) : tc_Sch S 131 := h.1.2.2.2.2.2.1
theorem Cor.loose (h : Cor S c di D m U P H Z X nw ed nv vt mv Dv) : (c.2.2.1 131 10 = 0 ∧ c.2.2.1 155 42 = 0 ∧ f_X10_needLooseSchema 0 (tc_mk S c) = some (.inr (), tc_mk S c)) ∨ (c.2.2.1 131 10 = 1 ∧ c.2.2.1 155 42 = 1 ∧ f_X10_needLooseSchema 0 (tc_mk S c) = some (.inl "java/lang/IllegalStateException", tc_mk S c)) := by
  obtain ⟨-, -, st, b1, b2⟩ := h.gs
  have is6 := h.sch.is c
  cases st with
  | false =>
    have b1 : c.2.2.1 131 10 = 0 := b1
    have z0 : tq_bz 0 = some 0 := rfl
    exact .inl ⟨b1, b2, by simp (maxSteps := 3000000) (disch := omega) only [Option.bind_some, tc_bs, tq_let, tc_I1, tc_I2, tc_J1, tc_J2, tc_J3, tc_F1, tc_F2, tc_F3, tc_F4, tc_G1, tc_G2, tc_G3, tc_G4, tc_G5, tc_us, tc_un, s_one, s_holds, s_J13_bitCount, bz_bI, f_X10_needLooseSchema, f_X6_isStrict, h.tq.f, h.sch.f, is6, b1, z0, if_true]⟩
  | true =>
    have b1 : c.2.2.1 131 10 = 1 := b1
    have z1 : tq_bz 1 = some 1 := rfl
    have n10 : ¬ (1 : Int32) = 0 := by decide
    exact .inr ⟨b1, b2, by simp (maxSteps := 3000000) (disch := omega) only [Option.bind_some, tc_bs, tq_let, tc_I1, tc_I2, tc_J1, tc_J2, tc_J3, tc_F1, tc_F2, tc_F3, tc_F4, tc_G1, tc_G2, tc_G3, tc_G4, tc_G5, tc_us, tc_un, s_one, s_holds, s_J13_bitCount, bz_bI, f_X10_needLooseSchema, f_X6_isStrict, h.tq.f, h.sch.f, is6, b1, z1, n10, if_false]⟩
theorem Cor.smaL (h : Cor S c di D m U P H Z X nw ed nv vt mv Dv) (hF : GF c D P H) (hs : c.2.2.1 131 10 = 0) (e : c'.2.2.1 131 10 = c.2.2.1 131 10) (k : Wr z1w u2 z3w u4 c c') (hz : GS c' Z') : InvE di (tc_mk S c') :=
  h.sma hF k hz fun z => by rw [e, hs] at z; exact absurd z (by decide)
end SMC
