/-! ===== one world inside another: what a method does in the one, it does in the other ===== -/
def mv (r : Nat → Nat) (v : Value) : Value := match v with
  | .ref k => .ref (r k)
  | x => x
def mx (r : Nat → Nat) (n : Nat) (x : (Nat → Int32) ⊕ (Nat → Int64) ⊕ (Nat → UInt32) ⊕ (Nat → UInt64) ⊕ (Nat → Option Nat)) : (Nat → Int32) ⊕ (Nat → Int64) ⊕ (Nat → UInt32) ⊕ (Nat → UInt64) ⊕ (Nat → Option Nat) := match x with
  | .inr (.inr (.inr (.inr f))) => .inr (.inr (.inr (.inr (fun j => if j < n then (f j).map r else none))))
  | z => z
def mo (r : Nat → Nat) (o : tq_O) : tq_O := match o with
  | .inl (c, fs) => .inl (c, fs.map (mv r))
  | .inr (t, (n, x)) => .inr (t, (n, mx r n x))
def okv (d : Nat → Prop) (v : Value) : Prop := match v with
  | .ref k => d k
  | _ => True
def okx (d : Nat → Prop) (n : Nat) (x : (Nat → Int32) ⊕ (Nat → Int64) ⊕ (Nat → UInt32) ⊕ (Nat → UInt64) ⊕ (Nat → Option Nat)) : Prop := match x with
  | .inr (.inr (.inr (.inr f))) => ∀ j k, j < n → f j = some k → d k
  | _ => True
def oko (d : Nat → Prop) (o : tq_O) : Prop := match o with
  | .inl (_, fs) => ∀ v, v ∈ fs → okv d v
  | .inr (_, (n, x)) => okx d n x
/-- no object -/
def junk : tq_O := .inl (0, [])
/-- the objects d of W lie in H, at the places r; W0 and H0 are the worlds at the start; al: new objects may be made -/
def Em (r : Nat → Nat) (d : Nat → Prop) (W0 H0 : tq_H) (al : Prop) (W H : tq_H) : Prop :=
  (∀ q q', d q → d q' → r q = r q' → q = q') ∧
  (∀ q, d q → oko d (W.2 q) ∧ H.2 (r q) = mo r (W.2 q)) ∧
  (∀ q, ¬ d q → W.2 q = W0.2 q) ∧
  (∀ j, (∀ q, d q → r q ≠ j) → H.2 j = H0.2 j) ∧
  (al → ∀ k, d (W.1 + k) ∧ r (W.1 + k) = H.1 + k ∧ W.2 (W.1 + k) = junk) ∧
  (W0.1 ≤ W.1 ∧ H0.1 + W.1 = H.1 + W0.1 ∧ (¬ al → W.1 = W0.1))
def Rr (r : Nat → Nat) (d : Nat → Prop) (k k' : Nat) : Prop := d k ∧ k' = r k
def Rv (r : Nat → Nat) (d : Nat → Prop) (v v' : Value) : Prop := okv d v ∧ v' = mv r v
def Ro (r : Nat → Nat) (d : Nat → Prop) (o o' : Option Nat) : Prop := (o = none ∧ o' = none) ∨ ∃ k k', o = some k ∧ o' = some k' ∧ Rr r d k k'
abbrev Rp {α α' β β' : Type} (A : α → α' → Prop) (B : β → β' → Prop) (a : α × β) (b : α' × β') : Prop := A a.1 b.1 ∧ B a.2 b.2
abbrev Ru {α α' β β' : Type} (A : α → α' → Prop) (B : β → β' → Prop) (a : α ⊕ β) (b : α' ⊕ β') : Prop := match a, b with
  | .inl x, .inl y => A x y
  | .inr x, .inr y => B x y
  | _, _ => False
abbrev Rt {α α' : Type} (r : Nat → Nat) (d : Nat → Prop) (W0 H0 : tq_H) (al : Prop) (A : α → α' → Prop) : (String ⊕ α) × tq_H → (String ⊕ α') × tq_H → Prop := Rp (Ru Eq A) (Em r d W0 H0 al)
def Sm {α β : Type} (R : α → β → Prop) (x : Option α) (y : Option β) : Prop := ∀ a, x = some a → ∃ b, y = some b ∧ R a b
section SM
variable {α β γ δ σ σ' ε ε' : Type}
theorem Sm.b {R : α → β → Prop} {Q : γ → δ → Prop} {x : Option α} {y : Option β} {f : α → Option γ} {g : β → Option δ} (h : Sm R x y) (k : ∀ a b, R a b → Sm Q (f a) (g b)) : Sm Q (x.bind f) (y.bind g) := by
  intro c hc
  cases x with
  | none => cases hc
  | some a =>
    obtain ⟨b, rfl, hb⟩ := h a rfl
    exact k a b hb c hc
theorem Sm.l {Q : γ → δ → Prop} {a : α} {b : β} {f : α → Option γ} {g : β → Option δ} (k : Sm Q (f a) (g b)) : Sm Q (tq_let a f) (tq_let b g) := k
theorem Sm.i {Q : γ → δ → Prop} {p : Prop} [Decidable p] {a b : Option γ} {a' b' : Option δ} (h1 : Sm Q a a') (h2 : Sm Q b b') : Sm Q (if p then a else b) (if p then a' else b') := by
  by_cases h : p
  · rw [if_pos h, if_pos h]; exact h1
  · rw [if_neg h, if_neg h]; exact h2
theorem Sm.s {Q : γ → δ → Prop} {a : γ} {b : δ} (h : Q a b) : Sm Q (some a) (some b) := by
  intro c hc
  cases hc
  exact ⟨b, rfl, h⟩
theorem Sm.no {Q : γ → δ → Prop} {y : Option δ} : Sm Q none y := by
  intro c hc
  cases hc
theorem Sm.r {x : Option γ} : Sm Eq x x := fun a h => ⟨a, h, rfl⟩
theorem Sm.u {A : σ → σ' → Prop} {B : ε → ε' → Prop} {Q : γ → δ → Prop} {x : Option (σ ⊕ ε)} {y : Option (σ' ⊕ ε')} {f : σ ⊕ ε → Option γ} {g : σ' ⊕ ε' → Option δ} (h : Sm (Ru A B) x y) (k1 : ∀ a b, A a b → Sm Q (f (.inl a)) (g (.inl b))) (k2 : ∀ a b, B a b → Sm Q (f (.inr a)) (g (.inr b))) : Sm Q (x.bind f) (y.bind g) := by
  refine h.b fun a b hab => ?_
  rcases a with a | a <;> rcases b with b | b
  · exact k1 a b hab
  · exact hab.elim
  · exact hab.elim
  · exact k2 a b hab
theorem Sm.o {r : Nat → Nat} {d : Nat → Prop} {Q : γ → δ → Prop} {x y : Option (Option Nat)} {f : Option Nat → Option γ} {g : Option Nat → Option δ} (h : Sm (Ro r d) x y) (k1 : Sm Q (f none) (g none)) (k2 : ∀ a b, Rr r d a b → Sm Q (f (some a)) (g (some b))) : Sm Q (x.bind f) (y.bind g) := by
  refine h.b fun a b hab => ?_
  rcases hab with ⟨rfl, rfl⟩ | ⟨k, k', rfl, rfl, hk⟩
  · exact k1
  · exact k2 k k' hk
theorem Ru.l {A : σ → σ' → Prop} {B : ε → ε' → Prop} {a : σ} {b : σ'} (h : A a b) : Ru A B (.inl a) (.inl b) := h
theorem Ru.r {A : σ → σ' → Prop} {B : ε → ε' → Prop} {a : ε} {b : ε'} (h : B a b) : Ru A B (.inr a) (.inr b) := h
theorem Rp.i {A : σ → σ' → Prop} {B : ε → ε' → Prop} {a : σ} {a' : σ'} {b : ε} {b' : ε'} (h : A a a') (k : B b b') : Rp A B (a, b) (a', b') := ⟨h, k⟩
theorem Sm.w {A : σ → σ' → Prop} {E : ε → ε' → Prop} {B : σ → Option (σ ⊕ ε)} {B' : σ' → Option (σ' ⊕ ε')} (hB : ∀ s s', A s s' → Sm (Ru A E) (B s) (B' s')) : ∀ (n : Nat) {s : σ} {s' : σ'}, A s s' → Sm E (tq_loop B n s) (tq_loop B' n s')
  | 0, s, s', _ => Sm.no
  | n + 1, s, s', h => by
    intro e he
    have hs := hB s s' h
    unfold tq_loop at he ⊢
    cases hb : B s with
    | none => rw [hb] at he; cases he
    | some z =>
      obtain ⟨z', hz, hr⟩ := hs z hb
      rw [hb] at he
      rw [hz]
      rcases z with z | z <;> rcases z' with z' | z'
      · exact Sm.w hB n hr e he
      · exact hr.elim
      · exact hr.elim
      · cases he; exact ⟨z', rfl, hr⟩
end SM
section SE
variable {α α' β β' γ : Type} {r : Nat → Nat} {d : Nat → Prop} {W0 H0 : tq_H} {al : Prop} {W H : tq_H} {t t' u u' : Nat} {c i : Nat}
theorem Sm.tb {A : α → α' → Prop} {B : β → β' → Prop} {x : Option ((String ⊕ α) × tq_H)} {y : Option ((String ⊕ α') × tq_H)} {f : α → tq_H → Option ((String ⊕ β) × tq_H)} {g : α' → tq_H → Option ((String ⊕ β') × tq_H)} (h : Sm (Rt r d W0 H0 al A) x y) (k : ∀ a a', A a a' → ∀ w w', Em r d W0 H0 al w w' → Sm (Rt r d W0 H0 al B) (f a w) (g a' w')) : Sm (Rt r d W0 H0 al B) (tq_tb x f) (tq_tb y g) := by
  intro z hz
  cases x with
  | none => cases hz
  | some a =>
    obtain ⟨b, rfl, hb⟩ := h a rfl
    obtain ⟨a1, a2⟩ := a
    obtain ⟨b1, b2⟩ := b
    obtain ⟨h1, h2⟩ := hb
    rcases a1 with a1 | a1 <;> rcases b1 with b1 | b1
    · cases (show a1 = b1 from h1)
      cases (show some (Sum.inl a1, a2) = some z from hz)
      exact ⟨_, rfl, Ru.l rfl, h2⟩
    · exact (show False from h1).elim
    · exact (show False from h1).elim
    · exact k a1 b1 h1 a2 b2 h2 z hz
theorem Em.nr (ha : al) (hE : Em r d W0 H0 al W H) : Rr r d W.1 H.1 := by
  have h := hE.2.2.2.2.1 ha 0
  rw [Nat.add_zero, Nat.add_zero] at h
  exact ⟨h.1, h.2.1.symm⟩
theorem Em.at (hE : Em r d W0 H0 al W H) (ht : Rr r d t t') : oko d (W.2 t) ∧ H.2 t' = mo r (W.2 t) := by
  rw [ht.2]
  exact hE.2.1 t ht.1
theorem okV_i (x : Int32) : Rv r d (.int x) (.int x) := ⟨trivial, rfl⟩
theorem okV_l (x : Int64) : Rv r d (.long x) (.long x) := ⟨trivial, rfl⟩
theorem okV_n : Rv r d .null .null := ⟨trivial, rfl⟩
theorem okV_r {k k' : Nat} (h : Rr r d k k') : Rv r d (.ref k) (.ref k') := ⟨h.1, by rw [h.2]; rfl⟩
theorem mo_l {o : tq_O} {fs : List Value} (h : o = .inl (c, fs)) : mo r o = .inl (c, fs.map (mv r)) := by rw [h]; rfl
/-- an update of an object that is there -/
theorem Em.up (hE : Em r d W0 H0 al W H) (ht : Rr r d t t') (hj : W.2 t ≠ junk) {o o' : tq_O} (ho : oko d o) (ho' : o' = mo r o) : Em r d W0 H0 al (tq_up W t o) (tq_up H t' o') := by
  obtain ⟨h1, h2, h3, h4, h5, h6⟩ := hE
  obtain ⟨ht1, rfl⟩ := ht
  refine ⟨h1, fun q hq => ?_, fun q hq => ?_, fun j hj2 => ?_, fun ha k => ?_, h6⟩
  · show oko d (if q = t then o else W.2 q) ∧ (if r q = r t then o' else H.2 (r q)) = mo r (if q = t then o else W.2 q)
    by_cases e : q = t
    · subst e
      rw [if_pos rfl, if_pos rfl]
      exact ⟨ho, ho'⟩
    · rw [if_neg e, if_neg (fun z => e (h1 q t hq ht1 z))]
      exact h2 q hq
  · show (if q = t then o else W.2 q) = _
    rw [if_neg (fun e => hq (by rw [e]; exact ht1))]
    exact h3 q hq
  · show (if j = r t then o' else H.2 j) = _
    rw [if_neg (fun e => hj2 t ht1 e.symm)]
    exact h4 j hj2
  · obtain ⟨a, b, e⟩ := h5 ha k
    refine ⟨a, b, ?_⟩
    show (if W.1 + k = t then o else W.2 (W.1 + k)) = _
    rw [if_neg (fun z => hj (by rw [← z]; exact e))]
    exact e
/-- a new object -/
theorem Em.new (ha : al) (hE : Em r d W0 H0 al W H) {o o' : tq_O} (ho : oko d o ∧ o' = mo r o) : Em r d W0 H0 al (tq_new W o) (tq_new H o') := by
  obtain ⟨h1, h2, h3, h4, h5, h6, h7, h8⟩ := hE
  obtain ⟨d0, r0, -⟩ := h5 ha 0
  rw [Nat.add_zero, Nat.add_zero] at r0
  rw [Nat.add_zero] at d0
  refine ⟨h1, fun q hq => ?_, fun q hq => ?_, fun j hj2 => ?_, fun ha k => ?_, ?_, ?_, fun n => absurd ha n⟩
  · show oko d (if q = W.1 then o else W.2 q) ∧ (if r q = H.1 then o' else H.2 (r q)) = mo r (if q = W.1 then o else W.2 q)
    by_cases e : q = W.1
    · subst e
      rw [if_pos rfl, if_pos r0]
      exact ho
    · rw [if_neg e, if_neg (fun z => e (h1 q W.1 hq d0 (z.trans r0.symm)))]
      exact h2 q hq
  · show (if q = W.1 then o else W.2 q) = _
    rw [if_neg (fun e => hq (by rw [e]; exact d0))]
    exact h3 q hq
  · show (if j = H.1 then o' else H.2 j) = _
    rw [if_neg (fun e => hj2 W.1 d0 (r0.trans e.symm))]
    exact h4 j hj2
  · obtain ⟨a, b, e⟩ := h5 ha (k + 1)
    have e1 : W.1 + (k + 1) = W.1 + 1 + k := by omega
    rw [e1] at a b e
    refine ⟨a, by show r (W.1 + 1 + k) = H.1 + 1 + k; omega, ?_⟩
    show (if W.1 + 1 + k = W.1 then o else W.2 (W.1 + 1 + k)) = _
    rw [if_neg (by omega)]
    exact e
  · show W0.1 ≤ W.1 + 1
    omega
  · show H0.1 + (W.1 + 1) = H.1 + 1 + W0.1
    omega
theorem Sm.n {γ δ : Type} {Q : γ → δ → Prop} {f : tq_H → Option γ} {g : tq_H → Option δ} {o o' : tq_O} (ha : al) (hE : Em r d W0 H0 al W H) (ho : oko d o ∧ o' = mo r o) (k : ∀ w w', Em r d W0 H0 al w w' → Sm Q (f w) (g w')) : Sm Q (tq_let (tq_new W o) f) (tq_let (tq_new H o') g) := k _ _ (hE.new ha ho)
def frV (v : Value) : Bool := match v with
  | .int _ => true
  | .long _ => true
  | .null => true
  | _ => false
theorem ok_fr : ∀ {fs : List Value}, fs.all frV = true → (∀ v, v ∈ fs → okv d v) ∧ fs.map (mv r) = fs
  | [], _ => ⟨fun v h => by simp at h, rfl⟩
  | v :: fs, h => by
    rw [List.all_cons, Bool.and_eq_true] at h
    obtain ⟨h1, h2⟩ := ok_fr h.2
    have hv : okv d v ∧ mv r v = v := by
      cases v with
      | int x => exact ⟨trivial, rfl⟩
      | long x => exact ⟨trivial, rfl⟩
      | null => exact ⟨trivial, rfl⟩
      | _ => cases h.1
    refine ⟨fun w hw => ?_, by rw [List.map_cons, hv.2, h2]⟩
    rcases List.mem_cons.mp hw with e | e
    · rw [e]; exact hv.1
    · exact h1 w e
theorem okO_l {c : Nat} {fs : List Value} (h : fs.all frV = true) : oko d (.inl (c, fs)) ∧ (Sum.inl (c, fs) : tq_O) = mo r (.inl (c, fs)) := by
  obtain ⟨h1, h2⟩ := ok_fr (r := r) (d := d) h
  refine ⟨h1, ?_⟩
  show _ = Sum.inl (c, fs.map (mv r))
  rw [h2]
theorem okO_i {t n : Nat} {f : Nat → Int32} : oko d (.inr (t, (n, .inl f))) ∧ (Sum.inr (t, (n, .inl f)) : tq_O) = mo r (.inr (t, (n, .inl f))) := ⟨trivial, rfl⟩
theorem okO_j {t n : Nat} {f : Nat → Int64} : oko d (.inr (t, (n, .inr (.inl f)))) ∧ (Sum.inr (t, (n, .inr (.inl f))) : tq_O) = mo r (.inr (t, (n, .inr (.inl f)))) := ⟨trivial, rfl⟩
theorem okO_q {t n : Nat} : oko d (.inr (t, (n, .inr (.inr (.inr (.inr (fun _ => none))))))) ∧ (Sum.inr (t, (n, .inr (.inr (.inr (.inr (fun _ => none)))))) : tq_O) = mo r (.inr (t, (n, .inr (.inr (.inr (.inr (fun _ => none))))))) := by
  refine ⟨fun j k _ h => (by cases h), ?_⟩
  show _ = (Sum.inr (t, (n, .inr (.inr (.inr (.inr (fun j => if j < n then Option.map r none else none)))))) : tq_O)
  have e : (fun j => if j < n then Option.map r none else none) = (fun _ : Nat => (none : Option Nat)) := by
    funext j
    split <;> rfl
  rw [e]
/-- the fields: what is read -/
theorem fs_at {fs : List Value} {k : Nat} {v : Value} (h : fs[k]? = some v) : (fs.map (mv r))[k]? = some (mv r v) := by rw [List.getElem?_map, h]; rfl
theorem Sm.gr (hE : Em r d W0 H0 al W H) (ht : Rr r d t t') : Sm (Rr r d) (tq_gr W t c i) (tq_gr H t' c i) := by
  obtain ⟨h1, h2⟩ := hE.at ht
  intro k hk
  unfold tq_gr at hk ⊢
  rw [h2]
  cases o : W.2 t with
  | inr z => rw [o] at hk; cases hk
  | inl z =>
    obtain ⟨c', fs⟩ := z
    rw [o] at hk h1
    dsimp only [mo] at hk ⊢
    split at hk
    · rename_i hc
      rw [if_pos hc]
      split at hk
      · rename_i q hq
        cases hk
        rw [fs_at hq]
        exact ⟨r k, rfl, h1 _ (List.mem_of_getElem? hq), rfl⟩
      · cases hk
    · cases hk
theorem Sm.is (hE : Em r d W0 H0 al W H) (ht : Rr r d t t') : Sm Eq (tq_is W t c) (tq_is H t' c) := by
  obtain ⟨h1, h2⟩ := hE.at ht
  intro k hk
  unfold tq_is at hk ⊢
  rw [h2]
  cases o : W.2 t with
  | inr z => rw [o] at hk; cases hk
  | inl z =>
    obtain ⟨c', fs⟩ := z
    rw [o] at hk
    exact ⟨k, hk, rfl⟩
theorem Sm.gi (hE : Em r d W0 H0 al W H) (ht : Rr r d t t') : Sm Eq (tq_gi W t c i) (tq_gi H t' c i) := by
  obtain ⟨h1, h2⟩ := hE.at ht
  intro k hk
  unfold tq_gi at hk ⊢
  rw [h2]
  cases o : W.2 t with
  | inr z => rw [o] at hk; cases hk
  | inl z =>
    obtain ⟨c', fs⟩ := z
    rw [o] at hk
    dsimp only [mo] at hk ⊢
    split at hk
    · rename_i hc
      rw [if_pos hc]
      split at hk
      · rename_i q hq
        cases hk
        rw [fs_at hq]
        exact ⟨k, rfl, rfl⟩
      · cases hk
    · cases hk
theorem Sm.gl (hE : Em r d W0 H0 al W H) (ht : Rr r d t t') : Sm Eq (tq_gl W t c i) (tq_gl H t' c i) := by
  obtain ⟨h1, h2⟩ := hE.at ht
  intro k hk
  unfold tq_gl at hk ⊢
  rw [h2]
  cases o : W.2 t with
  | inr z => rw [o] at hk; cases hk
  | inl z =>
    obtain ⟨c', fs⟩ := z
    rw [o] at hk
    dsimp only [mo] at hk ⊢
    split at hk
    · rename_i hc
      rw [if_pos hc]
      split at hk
      · rename_i q hq
        cases hk
        rw [fs_at hq]
        exact ⟨k, rfl, rfl⟩
      · cases hk
    · cases hk
theorem Sm.gq (hE : Em r d W0 H0 al W H) (ht : Rr r d t t') : Sm (Ro r d) (tq_gq W t c i) (tq_gq H t' c i) := by
  obtain ⟨h1, h2⟩ := hE.at ht
  intro k hk
  unfold tq_gq at hk ⊢
  rw [h2]
  cases o : W.2 t with
  | inr z => rw [o] at hk; cases hk
  | inl z =>
    obtain ⟨c', fs⟩ := z
    rw [o] at hk h1
    dsimp only [mo] at hk ⊢
    split at hk
    · rename_i hc
      rw [if_pos hc]
      split at hk
      · rename_i q hq
        cases hk
        rw [fs_at hq]
        exact ⟨some (r q), rfl, Or.inr ⟨q, r q, rfl, rfl, h1 _ (List.mem_of_getElem? hq), rfl⟩⟩
      · rename_i hq
        cases hk
        rw [fs_at hq]
        exact ⟨none, rfl, Or.inl ⟨rfl, rfl⟩⟩
      · cases hk
    · cases hk
theorem ne_junk {o : tq_O} {fs : List Value} (h : o = .inl (c, fs)) {k : Nat} (hk : k < fs.length) : o ≠ junk := by
  intro e
  rw [h] at e
  cases (Sum.inl.inj e)
  exact absurd hk (Nat.not_lt_zero _)
theorem ne_junk2 {o : tq_O} {z : Nat × vp_A} (h : o = .inr z) : o ≠ junk := by
  intro e
  rw [h] at e
  cases e
theorem mv_set {fs : List Value} {v v' : Value} (h : v' = mv r v) (k : Nat) : (fs.map (mv r)).set k v' = (fs.set k v).map (mv r) := by rw [h, List.map_set]
theorem Sm.pf (hE : Em r d W0 H0 al W H) (ht : Rr r d t t') {v v' : Value} (hv : Rv r d v v') : Sm (Em r d W0 H0 al) (tq_pf W t c i v) (tq_pf H t' c i v') := by
  obtain ⟨h1, h2⟩ := hE.at ht
  intro k hk
  unfold tq_pf at hk ⊢
  rw [h2]
  cases o : W.2 t with
  | inr z => rw [o] at hk; cases hk
  | inl z =>
    obtain ⟨c', fs⟩ := z
    rw [o] at hk h1
    dsimp only [mo] at hk ⊢
    split at hk
    · rename_i hc
      cases hk
      rw [if_pos ⟨hc.1, by rw [List.length_map]; exact hc.2⟩]
      refine ⟨_, rfl, hE.up ht (ne_junk o hc.2) ?_ ?_⟩
      · intro w hw
        rcases List.mem_or_eq_of_mem_set hw with hw | hw
        · exact h1 w hw
        · rw [hw]; exact hv.1
      · show _ = Sum.inl (c, (fs.set i v).map (mv r))
        rw [mv_set hv.2]
    · cases hk
theorem Sm.an (hE : Em r d W0 H0 al W H) (ht : Rr r d t t') : Sm Eq (tq_an W t) (tq_an H t') := by
  obtain ⟨h1, h2⟩ := hE.at ht
  intro k hk
  unfold tq_an at hk ⊢
  rw [h2]
  cases o : W.2 t with
  | inl z => rw [o] at hk; cases hk
  | inr z =>
    obtain ⟨c', n, x⟩ := z
    rw [o] at hk
    exact ⟨k, hk, rfl⟩
theorem Sm.ai (hE : Em r d W0 H0 al W H) (ht : Rr r d t t') {j : Int32} : Sm Eq (tq_ai W t j) (tq_ai H t' j) := by
  obtain ⟨h1, h2⟩ := hE.at ht
  intro k hk
  unfold tq_ai at hk ⊢
  rw [h2]
  split at hk
  · rename_i n f o
    rw [o]
    exact ⟨k, hk, rfl⟩
  · cases hk
theorem Sm.az (hE : Em r d W0 H0 al W H) (ht : Rr r d t t') {j : Int32} : Sm Eq (tq_az W t j) (tq_az H t' j) := by
  obtain ⟨h1, h2⟩ := hE.at ht
  intro k hk
  unfold tq_az at hk ⊢
  rw [h2]
  split at hk
  · rename_i n f o
    rw [o]
    exact ⟨k, hk, rfl⟩
  · cases hk
theorem Sm.aj (hE : Em r d W0 H0 al W H) (ht : Rr r d t t') {j : Int32} : Sm Eq (tq_aj W t j) (tq_aj H t' j) := by
  obtain ⟨h1, h2⟩ := hE.at ht
  intro k hk
  unfold tq_aj at hk ⊢
  rw [h2]
  split at hk
  · rename_i n f o
    rw [o]
    exact ⟨k, hk, rfl⟩
  · cases hk
theorem vp_in_lt {j : Int32} {n : Nat} (h : ¬ (j < 0 ∨ n ≤ j.toNatClampNeg)) : j.toNatClampNeg < n := Nat.not_le.mp fun q => h (Or.inr q)
theorem Sm.aq (hE : Em r d W0 H0 al W H) (ht : Rr r d t t') {j : Int32} : Sm (Ro r d) (tq_aq W t j) (tq_aq H t' j) := by
  obtain ⟨h1, h2⟩ := hE.at ht
  intro k hk
  unfold tq_aq at hk ⊢
  rw [h2]
  split at hk
  · rename_i n f o
    rw [o] at h1 ⊢
    dsimp only [mo, mx] at hk ⊢
    split at hk
    · cases hk
    · rename_i hc
      cases hk
      refine ⟨_, if_neg hc, ?_⟩
      show Ro r d (f j.toNatClampNeg) (if j.toNatClampNeg < n then (f j.toNatClampNeg).map r else none)
      rw [if_pos (vp_in_lt hc)]
      cases q : f j.toNatClampNeg with
      | none => exact Or.inl ⟨rfl, rfl⟩
      | some x => exact Or.inr ⟨x, r x, rfl, rfl, h1 _ _ (vp_in_lt hc) q, rfl⟩
  · cases hk
theorem Sm.si (hE : Em r d W0 H0 al W H) (ht : Rr r d t t') {j x : Int32} : Sm (Em r d W0 H0 al) (tq_si W t j x) (tq_si H t' j x) := by
  obtain ⟨h1, h2⟩ := hE.at ht
  intro k hk
  unfold tq_si at hk ⊢
  rw [h2]
  split at hk
  · rename_i n f o
    rw [o]
    dsimp only [mo, mx] at hk ⊢
    split at hk
    · cases hk
    · rename_i hc
      cases hk
      exact ⟨_, if_neg hc, hE.up ht (ne_junk2 o) (okO_i (r := r) (d := d)).1 (okO_i (r := r) (d := d)).2⟩
  · cases hk
theorem Sm.sz (hE : Em r d W0 H0 al W H) (ht : Rr r d t t') {j x : Int32} : Sm (Em r d W0 H0 al) (tq_sz W t j x) (tq_sz H t' j x) := by
  obtain ⟨h1, h2⟩ := hE.at ht
  intro k hk
  unfold tq_sz at hk ⊢
  rw [h2]
  split at hk
  · rename_i n f o
    rw [o]
    dsimp only [mo, mx] at hk ⊢
    split at hk
    · cases hk
    · rename_i hc
      split at hk
      · rename_i hx
        cases hk
        exact ⟨_, (if_neg hc).trans (if_pos hx), hE.up ht (ne_junk2 o) (okO_i (r := r) (d := d)).1 (okO_i (r := r) (d := d)).2⟩
      · cases hk
  · cases hk
theorem Sm.sl (hE : Em r d W0 H0 al W H) (ht : Rr r d t t') {j : Int32} {x : Int64} : Sm (Em r d W0 H0 al) (tq_sl W t j x) (tq_sl H t' j x) := by
  obtain ⟨h1, h2⟩ := hE.at ht
  intro k hk
  unfold tq_sl at hk ⊢
  rw [h2]
  split at hk
  · rename_i n f o
    rw [o]
    dsimp only [mo, mx] at hk ⊢
    split at hk
    · cases hk
    · rename_i hc
      cases hk
      exact ⟨_, if_neg hc, hE.up ht (ne_junk2 o) (okO_j (r := r) (d := d)).1 (okO_j (r := r) (d := d)).2⟩
  · cases hk
theorem mx_up {f : Nat → Option Nat} {j v n : Nat} (h : j < n) : (fun i => if i < n then (va_up f j (some v) i).map r else none) = va_up (fun i => if i < n then (f i).map r else none) j (some (r v)) := by
  funext i
  unfold va_up
  by_cases e : i = j
  · subst e
    rw [if_pos h, if_pos rfl, if_pos rfl]; rfl
  · rw [if_neg e, if_neg e]
theorem Sm.sq (hE : Em r d W0 H0 al W H) (ht : Rr r d t t') {j : Int32} (hu : Rr r d u u') : Sm (Em r d W0 H0 al) (tq_sq W t j u) (tq_sq H t' j u') := by
  obtain ⟨h1, h2⟩ := hE.at ht
  obtain ⟨g1, g2⟩ := hE.at hu
  intro k hk
  unfold tq_sq at hk ⊢
  rw [h2, g2]
  split at hk
  · rename_i n f fs o ou
    rw [o] at h1 ⊢
    rw [ou]
    dsimp only [mo, mx] at hk ⊢
    split at hk
    · cases hk
    · rename_i hc
      cases hk
      refine ⟨_, if_neg hc, hE.up ht (ne_junk2 o) ?_ ?_⟩
      · intro i q hi hq
        unfold va_up at hq
        split at hq
        · cases hq; exact hu.1
        · exact h1 i q hi hq
      · show _ = Sum.inr (3, (n, Sum.inr (Sum.inr (Sum.inr (Sum.inr (fun i => if i < n then (va_up f j.toNatClampNeg (some u) i).map r else none))))))
        rw [mx_up (vp_in_lt hc), hu.2]
  · cases hk
theorem Sm.cp (hE : Em r d W0 H0 al W H) (ht : Rr r d t t') (hu : Rr r d u u') {x y n : Int32} : Sm (Em r d W0 H0 al) (tq_cp W t x u y n) (tq_cp H t' x u' y n) := by
  obtain ⟨h1, h2⟩ := hE.at ht
  obtain ⟨g1, g2⟩ := hE.at hu
  intro k hk
  unfold tq_cp at hk ⊢
  rw [h2, g2]
  split at hk
  · rename_i n0 f n1 g o ou
    rw [o, ou]
    dsimp only [mo, mx] at hk ⊢
    split at hk
    · cases hk
    · rename_i hc
      cases hk
      exact ⟨_, if_neg hc, hE.up hu (ne_junk2 ou) (okO_i (r := r) (d := d)).1 (okO_i (r := r) (d := d)).2⟩
  · cases hk
end SE
