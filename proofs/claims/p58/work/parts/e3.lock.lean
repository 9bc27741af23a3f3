/-! ===== two ghosts with one reference: a call answers alike in both ===== -/
/-- the reference's part is the same -/
def Rf2 (W1 W2 : tq_H) : Prop := ∀ q, 155 ≤ q → q ≤ 204 → W1.2 q = W2.2 q
abbrev dr (q : Nat) : Prop := 155 ≤ q ∧ q ≤ 204
/-- the class's part is the same -/
def St (W W' : tq_H) : Prop := W'.1 = W.1 ∧ ∀ q, (q < 155 ∨ 206 ≤ q) → W'.2 q = W.2 q
def GI (dk : DI) (W : tq_H) : Prop := InvE dk W ∧ ∃ r d H, Rl r d W H
/-- in each ghost alike: an answer, what is behind it, and the updates in the list -/
def Twin (dk : DI) (k' : Nat) (PK : Int32 → Nat → Prop) (F : tq_H → Option (Int32 × tq_H)) (W1 : tq_H) : Prop :=
  ∃ v u Wb1 W1', PK v u ∧ F W1 = some (v, Wb1) ∧ St Wb1 W1' ∧ InvE (dk.1, k', u) W1' ∧ ∀ W2, GI dk W2 → Rf2 W1 W2 → ∃ Wb2 W2', F W2 = some (v, Wb2) ∧ St Wb2 W2' ∧ InvE (dk.1, k', u) W2' ∧ Rf2 W1' W2'
/-- what whole's law says of a call: the class's wrapper, the reference behind it, the same answer -/
def AX (V R : tq_H → Option (Int32 × tq_H)) (cv : Int32 → Int64) (W W' : tq_H) : Prop :=
  ∃ k Wa a, V W = some (k, Wa) ∧ R Wa = some (a, W') ∧ f_X11_thrown 155 W' = some k ∧ (k = 0 → tq_aj W' 205 0 = some (cv a))
def cI (x : Int32) : Int64 := x.toInt64
def cB (x : Int32) : Int64 := if x = 0 then 0 else 1
section LCK
variable {dk dk' : DI} {W W' W1 W2 Wa Wb H : tq_H} {V R F : tq_H → Option (Int32 × tq_H)} {cv : Int32 → Int64} {y4 y5 : Int32}
theorem armI_x (e : armI (V W) R y4 = some (.inl (y5, W'))) : AX V R cI W W' := by
  unfold armI at e
  obtain ⟨⟨k, Wa⟩, e1, e⟩ := tq_be e
  obtain ⟨u, e2, e⟩ := tq_be e
  obtain ⟨⟨a, Wc⟩, e3, e⟩ := tq_be e
  obtain ⟨u, e4, e⟩ := tq_be e
  obtain ⟨k', e5, e⟩ := tq_be e
  dsimp only at e3 e5 e
  split at e
  · rename_i hk
    subst hk
    split at e
    · rename_i h0
      obtain ⟨x, e6, e⟩ := tq_be e
      split at e
      · rename_i hx
        unfold tq_let at e
        cases (Sum.inl.inj (Option.some.inj e))
        refine ⟨_, Wa, a, e1, e3, e5, fun _ => ?_⟩
        rw [e6, (lg_cmp_0 _ _).mp hx]; rfl
      · cases e
    · rename_i h0
      unfold tq_let at e
      cases (Sum.inl.inj (Option.some.inj e))
      exact ⟨_, Wa, a, e1, e3, e5, fun z => absurd z h0⟩
  · cases e
theorem bL_cB (a : Int32) : bL a = cB a := rfl
theorem armB_x (e : armB (V W) R y4 = some (.inl (y5, W'))) : AX V R cB W W' := by
  unfold armB at e
  obtain ⟨⟨k, Wa⟩, e1, e⟩ := tq_be e
  obtain ⟨u, e2, e⟩ := tq_be e
  obtain ⟨⟨a, Wc⟩, e3, e⟩ := tq_be e
  obtain ⟨u, e4, e⟩ := tq_be e
  obtain ⟨k', e5, e⟩ := tq_be e
  dsimp only at e3 e5 e
  split at e
  · rename_i hk
    subst hk
    split at e
    · rename_i h0
      obtain ⟨x, e6, e⟩ := tq_be e
      have e : (if lg_cmp x (cB a) = 0 then (some (Sum.inl (y4 + 5, Wc)) : Option ((Int32 × tq_H) ⊕ (Int32 × tq_H))) else some (Sum.inr (0, Wc))) = some (Sum.inl (y5, W')) := e
      split at e
      · rename_i hx
        cases (Sum.inl.inj (Option.some.inj e))
        refine ⟨_, Wa, a, e1, e3, e5, fun _ => ?_⟩
        rw [e6, (lg_cmp_0 _ _).mp hx]
      · cases e
    · rename_i h0
      unfold tq_let at e
      cases (Sum.inl.inj (Option.some.inj e))
      exact ⟨_, Wa, a, e1, e3, e5, fun z => absurd z h0⟩
  · cases e
theorem mv_id (v : Value) : mv id v = v := by cases v <;> rfl
theorem okr_mod {S : tq_H} {z : Nat} (h : tc_Mod S z) {q : Nat} (hq : dr q) : okS dr (S.2 q) :=
  at_off (f := fun q => okS dr (S.2 q)) (N := 50) (Mod_ok h) hq.1 (by omega)
theorem mo_id {d : Nat → Prop} {S : tq_H} {c : tc_C} {q : Nat} (h : okS d (S.2 q)) : mo id ((tc_mk S c).2 q) = (tc_mk S c).2 q := by
  show mo id (tc_ob c q (S.2 q)) = tc_ob c q (S.2 q)
  cases o : S.2 q with
  | inl z =>
    obtain ⟨ci, fs⟩ := z
    show Sum.inl (ci, (tc_fill _ _ 0 fs).map (mv id)) = _
    rw [List.map_congr_left (g := id) (fun v _ => mv_id v), List.map_id]
    rfl
  | inr z =>
    obtain ⟨t, n, x⟩ := z
    rw [o] at h
    rcases x with x | x | x | x | x
    · rfl
    · rfl
    · exact h.elim
    · exact h.elim
    · exact h.elim
/-- the reference's objects of a ghost -/
theorem InvE.mod (h : InvE dk W) : ∀ q, dr q → oko dr (W.2 q) ∧ mo id (W.2 q) = W.2 q := by
  obtain ⟨S, c, D, m, U, P, H, Z, X, nw, ed, nv, vt, mv, Dv, rfl, hC, hF⟩ := h
  intro q hq
  have hm := okr_mod hC.mod hq
  exact ⟨okS_mk hm, mo_id hm⟩
theorem Rf2.em (h : ∀ q, dr q → oko dr (W1.2 q) ∧ mo id (W1.2 q) = W1.2 q) (hR : Rf2 W1 W2) : Em id dr W1 W2 False W1 W2 :=
  ⟨fun _ _ _ _ e => e, fun q hq => ⟨(h q hq).1, by rw [(h q hq).2]; exact (hR q hq.1 hq.2).symm⟩, fun _ _ => rfl, fun _ _ => rfl, fun z => z.elim, Nat.le_refl _, rfl, fun _ => rfl⟩
/-- the reference tells how many updates there are -/
theorem InvE.u15 (h : InvE dk W) : tq_gi W 155 11 15 = some (nI dk.2.2) ∧ dk.2.2 ≤ 20 := by
  obtain ⟨S, c, D, m, U, P, H, Z, X, nw, ed, nv, vt, mv, Dv, rfl, hC, hF⟩ := h
  refine ⟨?_, by rw [← hC.un]; exact hC.gu.1.2.1⟩
  rw [tc_gi (S := S) (c := c) hC.mod.1 rfl, hC.gu.2.1.1, hC.un]
theorem InvE.u_eq (h : InvE dk W) (h' : InvE dk' W') (e : W.2 155 = W'.2 155) : dk.2.2 = dk'.2.2 := by
  obtain ⟨a1, a2⟩ := h.u15
  obtain ⟨b1, b2⟩ := h'.u15
  have : tq_gi W 155 11 15 = tq_gi W' 155 11 15 := by unfold tq_gi; rw [e]
  rw [a1, b1] at this
  exact (nI_eq (by omega) (by omega)).mp (Option.some.inj this)
theorem thrown_eq (h : W1.2 155 = W2.2 155) : f_X11_thrown 155 W1 = f_X11_thrown 155 W2 := by
  unfold f_X11_thrown tq_gi
  rw [h]
theorem sl_at {x : Int64} (h : tq_sl Wb 205 0 x = some Wa) : tq_aj Wa 205 0 = some x ∧ Wa.1 = Wb.1 ∧ ∀ q, q ≠ 205 → Wa.2 q = Wb.2 q := by
  unfold tq_sl at h
  split at h
  · rename_i n f o
    split at h
    · cases h
    · rename_i hc
      cases h
      refine ⟨?_, rfl, fun q hq => if_neg hq⟩
      unfold tq_aj
      have e : (tq_up Wb 205 (.inr (2, (n, .inr (.inl (vp_updL f (0 : Int32).toNatClampNeg x)))))).2 205 = .inr (2, (n, .inr (.inl (vp_updL f (0 : Int32).toNatClampNeg x)))) := by
        unfold tq_up
        show (if (205 : Nat) = 205 then _ else Wb.2 205) = _
        exact if_pos rfl
      rw [e]
      exact (if_neg hc).trans (congrArg some (updL_s _ _ _))
  · cases h
theorem toI64_inj {a b : Int32} (h : cI a = cI b) : a = b := by
  unfold cI at h
  have := congrArg Int64.toInt h
  rw [Int32.toInt_toInt64, Int32.toInt_toInt64] at this
  exact Int32.toInt_inj.mp this
end LCK
def pk3 (a b c : String) (k : Int32) : String := if k = 1 then a else if k = 2 then b else c
theorem pk3_1 (a b c : String) : pk3 a b c 1 = a := if_pos rfl
theorem pk3_2 (a b c : String) : pk3 a b c 2 = b := by unfold pk3; rw [if_neg (by decide), if_pos rfl]
theorem pk3_3 (a b c : String) : pk3 a b c 3 = c := by unfold pk3; rw [if_neg (by decide), if_neg (by decide)]
def wE (E : String) : Int32 := if E = "java/lang/IndexOutOfBoundsException" then -2000000001 else if E = "java/lang/IllegalArgumentException" then -2000000002 else -2000000003
theorem wE_I : wE "java/lang/IndexOutOfBoundsException" = -2000000001 := if_pos rfl
theorem wE_A : wE "java/lang/IllegalArgumentException" = -2000000002 := by unfold wE; rw [if_neg nAI, if_pos rfl]
theorem wE_S : wE "java/lang/IllegalStateException" = -2000000003 := by unfold wE; rw [if_neg nSI, if_neg nSA]
theorem wE_neg (E : String) : wE E < 0 := by
  unfold wE
  by_cases a : E = "java/lang/IndexOutOfBoundsException"
  · rw [if_pos a]; decide
  · rw [if_neg a]
    by_cases b : E = "java/lang/IllegalArgumentException"
    · rw [if_pos b]; decide
    · rw [if_neg b]; decide
/-- an update is taken, or refused -/
def PKp (un : Nat) (v : Int32) (u : Nat) : Prop := (u = un ∧ v < 0) ∨ (u = un + 1 ∧ v = nI u)
/-- the list is done, or refused -/
def PKa (un : Nat) (v : Int32) (u : Nat) : Prop := u = 0 ∨ (u = un ∧ v = -2000000003)
def EXa (un u : Nat) (h : tq_H) : Prop := u = 0 ∨ (u = un ∧ ∃ k, f_X11_thrown 155 h = some k ∧ k ≠ 0)
section PKS
variable {un u : Nat} {W : tq_H} {k v : Int32}
theorem EXp.l (h : EXp un u W) (ht : f_X11_thrown 155 W = some k) (hk : k ≠ 0) (E : String) : PKp un (wE E) u := by
  rcases h with ⟨a, -⟩ | ⟨-, b, -⟩
  · exact Or.inl ⟨a, wE_neg E⟩
  · rw [ht] at b
    exact absurd (Option.some.inj b) hk
theorem EXp.r (h : EXp un u W) (ht : f_X11_thrown 155 W = some 0) (ha : tq_aj W 205 0 = some (cI v)) : PKp un v u := by
  rcases h with ⟨-, k, b, c⟩ | ⟨a, -, b⟩
  · rw [ht] at b
    exact absurd (Option.some.inj b).symm c
  · rw [ha] at b
    exact Or.inr ⟨a, toI64_inj (Option.some.inj b)⟩
theorem EXa.l (h : EXa un u W) (hk : k = 1) : PKa un (wE (pk3 "java/lang/IllegalStateException" "" "" k)) u := by
  subst hk
  rw [pk3_1, wE_S]
  rcases h with a | ⟨a, -⟩
  · exact Or.inl a
  · exact Or.inr ⟨a, rfl⟩
theorem EXa.r (h : EXa un u W) (ht : f_X11_thrown 155 W = some 0) : PKa un v u := by
  rcases h with a | ⟨-, k, b, c⟩
  · exact Or.inl a
  · rw [ht] at b
    exact absurd (Option.some.inj b).symm c
end PKS
def x5 (a b c d : Int32) (j : Nat) : Int32 := if j = 1 then a else if j = 2 then b else if j = 3 then c else d
theorem sx1 (a b c d : Int32) : tq_sx 5 (x5 a b c d) (0 + 1) = some a := by unfold tq_sx; rw [if_neg (by decide)]; rfl
theorem sx2 (a b c d : Int32) : tq_sx 5 (x5 a b c d) (0 + 2) = some b := by unfold tq_sx; rw [if_neg (by decide)]; rfl
theorem sx3 (a b c d : Int32) : tq_sx 5 (x5 a b c d) (0 + 3) = some c := by unfold tq_sx; rw [if_neg (by decide)]; rfl
theorem sx4 (a b c d : Int32) : tq_sx 5 (x5 a b c d) (0 + 4) = some d := by unfold tq_sx; rw [if_neg (by decide)]; rfl
def wB (v : Int32) : Int32 := if v = 0 then 0 else 1
theorem wB_eq {v1 v2 : Int32} (h : cB v1 = cB v2) : wB v1 = wB v2 := by
  unfold cB at h
  unfold wB
  by_cases a : v1 = 0 <;> by_cases b : v2 = 0
  · rw [if_pos a, if_pos b]
  · rw [if_pos a, if_neg b] at h
    exact absurd h (by decide)
  · rw [if_neg a, if_pos b] at h
    exact absurd h (by decide)
  · rw [if_neg a, if_neg b]
section LKT
variable {dk : DI} {k' : Nat} {EX : Nat → tq_H → Prop} {PK : Int32 → Nat → Prop} {G : tq_H → Option ((String ⊕ Int32) × tq_H)} {G' : Nat → tq_H → Option ((String ⊕ Int32) × tq_H)} {V R F : tq_H → Option (Int32 × tq_H)} {cv : Int32 → Int64} {p : Int32 → String} {ok : Int32 → Prop} {wv : Int32 → Int32} {we : String → Int32}
theorem twin_of (yG : ∀ {r : Nat → Nat} {d : Nat → Prop} {W0 H0 W H : tq_H}, Em r d W0 H0 True W H → Rr r d 0 (r 0) → Sm (Rp (Ru Eq Eq) (Em r d W0 H0 True)) (G W) (G' (r 0) H))
    (yR : ∀ {W0 H0 W H : tq_H}, Em id dr W0 H0 False W H → Rr id dr 155 155 → Sm (Rp Eq (Em id dr W0 H0 False)) (R W) (R H))
    (hV : ∀ W k Wa, V W = some (k, Wa) → ∃ r Wb, tq_is W 0 10 = some () ∧ G W = some (r, Wb) ∧ ((∃ v, r = .inr v ∧ k = 0 ∧ tq_sl Wb 205 0 (cv v) = some Wa) ∨ (r = .inl (p k) ∧ k ≠ 0 ∧ ok k ∧ Wa = Wb)))
    (hF1 : ∀ W Wb v, tq_is W 0 10 = some () → G W = some (.inr v, Wb) → F W = some (wv v, Wb)) (hF2 : ∀ W Wb k, ok k → tq_is W 0 10 = some () → G W = some (.inl (p k), Wb) → F W = some (we (p k), Wb))
    (hw : ∀ v1 v2, cv v1 = cv v2 → wv v1 = wv v2) (hP1 : ∀ u W' k, EX u W' → f_X11_thrown 155 W' = some k → k ≠ 0 → ok k → PK (we (p k)) u) (hP0 : ∀ u W' v, EX u W' → f_X11_thrown 155 W' = some 0 → tq_aj W' 205 0 = some (cv v) → PK (wv v) u)
    (arm : ∀ W, InvE dk W → ∃ W' u, AX V R cv W W' ∧ InvE (dk.1, k', u) W' ∧ EX u W') {W1 : tq_H} (g1 : GI dk W1) : Twin dk k' PK F W1 := by
  -- one ghost
  have one : ∀ W, GI dk W → ∃ k Wa a r Wb W' u, R Wa = some (a, W') ∧ f_X11_thrown 155 W' = some k ∧ (k = 0 → tq_aj W' 205 0 = some (cv a)) ∧ (InvE (dk.1, k', u) W' ∧ EX u W') ∧ (tq_is W 0 10 = some () ∧ G W = some (r, Wb)) ∧
      ((∃ v, r = .inr v ∧ k = 0 ∧ tq_sl Wb 205 0 (cv v) = some Wa) ∨ (r = .inl (p k) ∧ k ≠ 0 ∧ ok k ∧ Wa = Wb)) ∧ (∀ q, 155 ≤ q → q ≤ 204 → Wa.2 q = W.2 q) ∧ (∀ q, dr q → oko dr (Wa.2 q) ∧ mo id (Wa.2 q) = Wa.2 q) ∧ St Wb W' ∧ tq_aj W' 205 0 = tq_aj Wa 205 0 := by
    intro W ⟨hi, r, d, H, hr⟩
    obtain ⟨W', u, ⟨k, Wa, a, e1, e2, e3, e4⟩, hi', hx⟩ := arm W hi
    obtain ⟨rr, Wb, e50, e5, e6⟩ := hV W k Wa e1
    have hem := hr.em
    obtain ⟨⟨r2, H2⟩, -, -, hem2⟩ := yG hem ⟨Or.inl hr.1, rfl⟩ _ e5
    obtain ⟨-, f2, -, -⟩ := Em.off hr hem2
    have ab : Wa.1 = Wb.1 ∧ ∀ q, q ≠ 205 → Wa.2 q = Wb.2 q := by
      rcases e6 with ⟨v, -, -, e7⟩ | ⟨-, -, -, e7⟩
      · exact (sl_at e7).2
      · subst e7; exact ⟨rfl, fun _ _ => rfl⟩
    have fa : ∀ q, 155 ≤ q → q ≤ 204 → Wa.2 q = W.2 q := fun q h1 h2 => (ab.2 q (by omega)).trans (f2 q h1 (by omega))
    have ra : ∀ q, dr q → oko dr (Wa.2 q) ∧ mo id (Wa.2 q) = Wa.2 q := fun q hq => by
      rw [fa q hq.1 hq.2]; exact hi.mod q hq
    -- the reference's run leaves the class alone
    have hrr := Rf2.em (W1 := Wa) (W2 := Wa) ra (fun _ _ _ => rfl)
    obtain ⟨⟨a2, W2⟩, z1, z2, z3⟩ := yR hrr ⟨by decide, rfl⟩ _ e2
    obtain ⟨-, -, m3, -, -, -, -, m8⟩ := z3
    have c1 : W'.1 = Wa.1 := m8 id
    have c2 : ∀ q, ¬ dr q → W'.2 q = Wa.2 q := m3
    refine ⟨k, Wa, a, rr, Wb, W', u, e2, e3, e4, ⟨hi', hx⟩, ⟨e50, e5⟩, e6, fa, ra, ⟨c1.trans ab.1, fun q hq => (c2 q (by omega)).trans (ab.2 q (by omega))⟩, ?_⟩
    unfold tq_aj
    rw [c2 205 (by omega)]
  obtain ⟨k1, Wa1, a1, r1, Wb1, W1', u1, x1, x2, x3, ⟨x4, x4'⟩, x5, x6, x7, x8, x9, x10⟩ := one W1 g1
  -- the answer
  have ans : ∀ W k Wa a r Wb W', R Wa = some (a, W') → (tq_is W 0 10 = some () ∧ G W = some (r, Wb)) → ((∃ v, r = .inr v ∧ k = 0 ∧ tq_sl Wb 205 0 (cv v) = some Wa) ∨ (r = .inl (p k) ∧ k ≠ 0 ∧ ok k ∧ Wa = Wb)) → (k = 0 → tq_aj W' 205 0 = some (cv a)) → tq_aj W' 205 0 = tq_aj Wa 205 0 → (k = 0 ∧ ∃ v, cv v = cv a ∧ F W = some (wv v, Wb)) ∨ (k ≠ 0 ∧ ok k ∧ F W = some (we (p k), Wb)) := by
    intro W k Wa a r Wb W' y1 y2 y3 y4 y5
    rcases y3 with ⟨v, rfl, rfl, y6⟩ | ⟨rfl, y6, y7, -⟩
    · refine Or.inl ⟨rfl, v, ?_, hF1 _ _ _ y2.1 y2.2⟩
      have := y4 rfl
      rw [y5, (sl_at y6).1] at this
      exact Option.some.inj this
    · exact Or.inr ⟨y6, y7, hF2 _ _ _ y7 y2.1 y2.2⟩
  have key : ∃ w, PK w u1 ∧ F W1 = some (w, Wb1) ∧ ∀ W2, GI dk W2 → Rf2 W1 W2 → ∃ Wb2 W2', F W2 = some (w, Wb2) ∧ St Wb2 W2' ∧ InvE (dk.1, k', u1) W2' ∧ Rf2 W1' W2' := by
    have two : ∀ W2, GI dk W2 → Rf2 W1 W2 → ∃ Wa2 r2 Wb2 W2', R Wa2 = some (a1, W2') ∧ (tq_is W2 0 10 = some () ∧ G W2 = some (r2, Wb2)) ∧ ((∃ v, r2 = .inr v ∧ k1 = 0 ∧ tq_sl Wb2 205 0 (cv v) = some Wa2) ∨ (r2 = .inl (p k1) ∧ k1 ≠ 0 ∧ ok k1 ∧ Wa2 = Wb2)) ∧ (k1 = 0 → tq_aj W2' 205 0 = some (cv a1)) ∧ tq_aj W2' 205 0 = tq_aj Wa2 205 0 ∧ St Wb2 W2' ∧ InvE (dk.1, k', u1) W2' ∧ Rf2 W1' W2' := by
      intro W2 g2 hR
      obtain ⟨k2, Wa2, a2, r2, Wb2, W2', u2, z1, z2, z3, ⟨z4, z4'⟩, z5, z6, z7, z8, z9, z10⟩ := one W2 g2
      have hRa : Rf2 Wa1 Wa2 := fun q h1 h2 => (x7 q h1 h2).trans ((hR q h1 h2).trans (z7 q h1 h2).symm)
      obtain ⟨⟨a3, W3⟩, w1, w2, w3⟩ := yR (Rf2.em x8 hRa) ⟨by decide, rfl⟩ _ x1
      rw [z1] at w1
      cases w1
      have w2 : a1 = a2 := w2
      subst w2
      have hR' : Rf2 W1' W2' := fun q h1 h2 => by
        have := (w3.2.1 q ⟨h1, h2⟩).2
        rw [(x4.mod q ⟨h1, h2⟩).2] at this
        exact this.symm
      have hk : k1 = k2 := by
        rw [thrown_eq (hR' 155 (by omega) (by omega)), z2] at x2
        exact (Option.some.inj x2).symm
      subst hk
      have hu : u1 = u2 := x4.u_eq z4 (hR' 155 (by omega) (by omega))
      subst hu
      exact ⟨Wa2, r2, Wb2, W2', z1, z5, z6, z3, z10, z9, z4, hR'⟩
    rcases ans _ _ _ _ _ _ _ x1 x5 x6 x3 x10 with ⟨k0, v, v1, v2⟩ | ⟨k0, vo, v2⟩
    · refine ⟨wv v, hP0 u1 W1' v x4' (by rw [x2, k0]) (by rw [x3 k0, v1]), v2, fun W2 g2 hR => ?_⟩
      obtain ⟨Wa2, r2, Wb2, W2', z1, z2, z3, z4, z5, z6, z7, z8⟩ := two W2 g2 hR
      rcases ans _ _ _ _ _ _ _ z1 z2 z3 z4 z5 with ⟨-, u, y1, y2⟩ | ⟨u0, -⟩
      · exact ⟨Wb2, W2', by rw [y2, hw u v (y1.trans v1.symm)], z6, z7, z8⟩
      · exact absurd k0 u0
    · refine ⟨_, hP1 u1 W1' k1 x4' x2 k0 vo, v2, fun W2 g2 hR => ?_⟩
      obtain ⟨Wa2, r2, Wb2, W2', z1, z2, z3, z4, z5, z6, z7, z8⟩ := two W2 g2 hR
      rcases ans _ _ _ _ _ _ _ z1 z2 z3 z4 z5 with ⟨u0, -⟩ | ⟨-, -, y2⟩
      · exact absurd u0 k0
      · exact ⟨Wb2, W2', y2, z6, z7, z8⟩
  obtain ⟨w, w0, w1, w2⟩ := key
  exact ⟨w, u1, Wb1, W1', w0, w1, x9, x4, w2⟩
end LKT
