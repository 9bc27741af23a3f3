/-! ===== the machine seen small: worlds whose objects bear numbers, one judgement for all methods ===== -/
/-- an object: its class's number and its fields; or an array: its type's number, its length and its contents. A reference is an object's number here; .float stands for some reference that the world doesn't hold (a caught exception), .retAddr for a known one (the script). -/
abbrev tq_O : Type := (Nat × List Value) ⊕ (Nat × vp_A)
/-- how many objects there are, and which -/
abbrev tq_H : Type := Nat × (Nat → tq_O)
/-- how a method ends: with a value, or with an exception of a class -/
abbrev tq_R : Type := Option Value ⊕ String
def tq_up (h : tq_H) (k : Nat) (o : tq_O) : tq_H := (h.1, fun j => if j = k then o else h.2 j)
def tq_new (h : tq_H) (o : tq_O) : tq_H := (h.1 + 1, fun j => if j = h.1 then o else h.2 j)
def tq_vr (ad : List Nat) (v w : Value) : Prop := match v with
  | .ref k => ∃ a : Nat, ad[k]? = some a ∧ w = .ref a
  | .float _ => ∃ a : Nat, w = .ref a
  | .retAddr b => w = .ref b
  | x => w = x
def tq_al {α β : Type} (r : α → β → Prop) : List α → List β → Prop
  | [], [] => True
  | a :: l, b :: m => r a b ∧ tq_al r l m
  | _, _ => False
def tq_xr (ad : List Nat) (x y : (Nat → Int32) ⊕ (Nat → Int64) ⊕ (Nat → UInt32) ⊕ (Nat → UInt64) ⊕ (Nat → Option Nat)) : Prop := match x with
  | .inr (.inr (.inr (.inr f))) => ∃ g : Nat → Option Nat, y = .inr (.inr (.inr (.inr g))) ∧ ∀ j, (f j = none → g j = none) ∧ ∀ i, f j = some i → ∃ a, ad[i]? = some a ∧ g j = some a
  | z => y = z
def tq_or (cA : Nat → ClassId) (ad : List Nat) (o : tq_O) (e : va_E) : Prop := match o with
  | .inl (ci, fs) => ∃ gs, e = .inr (ci, gs) ∧ tq_al (tq_vr ad) fs gs
  | .inr (t, (n, x)) => ∃ y, e = .inl (cA t, n, y) ∧ tq_xr ad x y
abbrev tq_ad (ws : va_W) : List Nat := ws.map Prod.fst
def tq_w (cA : Nat → ClassId) (h : tq_H) (ws : va_W) : Prop := ws.length = h.1 ∧ ∀ (k : Nat) (q : Nat × va_E), ws[k]? = some q → tq_or cA (tq_ad ws) (h.2 k) q.2
def tq_lr (ad : List Nat) (q r : Nat × Value) : Prop := q.1 = r.1 ∧ tq_vr ad q.2 r.2
def tq_lv (nL : Nat) (ad : List Nat) (L : List (Nat × Value)) (ls : Array Slot) : Prop := ∃ L', lv_has ls nL L' ∧ tq_al (tq_lr ad) L L'
/-- the array types: int, int once more, long, Tree -/
def tq_ty (cA : Nat → ClassId) : List (ClassId × FieldType) := [(cA 0, .int), (cA 1, .int), (cA 2, .long), (cA 3, .object "Treequery$Tree")]
theorem tq_al.mono {α β : Type} {r r' : α → β → Prop} (h : ∀ a b, r a b → r' a b) : ∀ {l : List α} {m : List β}, tq_al r l m → tq_al r' l m
  | [], [], _ => trivial
  | _ :: _, _ :: _, q => ⟨h _ _ q.1, tq_al.mono h q.2⟩
  | [], _ :: _, q => q.elim
  | _ :: _, [], q => q.elim
theorem tq_al.len {α β : Type} {r : α → β → Prop} : ∀ {l : List α} {m : List β}, tq_al r l m → l.length = m.length
  | [], [], _ => rfl
  | _ :: _, _ :: _, q => congrArg (· + 1) (tq_al.len q.2)
  | [], _ :: _, q => q.elim
  | _ :: _, [], q => q.elim
theorem tq_al.at {α β : Type} {r : α → β → Prop} : ∀ {l : List α} {m : List β}, tq_al r l m → ∀ {k : Nat} {a : α}, l[k]? = some a → ∃ b, m[k]? = some b ∧ r a b
  | [], [], _, k, a, h => by simp at h
  | a0 :: _, b0 :: _, q, 0, a, h => ⟨b0, rfl, by cases (Option.some.inj (show some a0 = some a from h)); exact q.1⟩
  | _ :: _, _ :: _, q, k + 1, a, h => tq_al.at q.2 (k := k) h
  | [], _ :: _, q, _, _, _ => q.elim
  | _ :: _, [], q, _, _, _ => q.elim
theorem tq_al.set {α β : Type} {r : α → β → Prop} {a : α} {b : β} (hr : r a b) : ∀ {l : List α} {m : List β}, tq_al r l m → ∀ (k : Nat), tq_al r (l.set k a) (m.set k b)
  | [], [], _, _ => trivial
  | _ :: _, _ :: _, q, 0 => ⟨hr, q.2⟩
  | _ :: _, _ :: _, q, k + 1 => ⟨q.1, tq_al.set hr q.2 k⟩
  | [], _ :: _, q, _ => q.elim
  | _ :: _, [], q, _ => q.elim
theorem tq_al.app {α β : Type} {r : α → β → Prop} {l' : List α} {m' : List β} (h' : tq_al r l' m') : ∀ {l : List α} {m : List β}, tq_al r l m → tq_al r (l ++ l') (m ++ m')
  | [], [], _ => h'
  | _ :: _, _ :: _, q => ⟨q.1, tq_al.app h' q.2⟩
  | [], _ :: _, q => q.elim
  | _ :: _, [], q => q.elim
theorem tq_al.rev {α β : Type} {r : α → β → Prop} : ∀ {l : List α} {m : List β}, tq_al r l m → tq_al r l.reverse m.reverse
  | [], [], _ => trivial
  | _ :: _, _ :: _, q => by
    rw [List.reverse_cons, List.reverse_cons]
    exact tq_al.app (show tq_al r [_] [_] from ⟨q.1, trivial⟩) (tq_al.rev q.2)
  | [], _ :: _, q => q.elim
  | _ :: _, [], q => q.elim
theorem tq_al.cut {α β : Type} {r : α → β → Prop} : ∀ {l : List α} {l2 : List α} {m : List β}, tq_al r (l ++ l2) m → ∃ m1 m2, m = m1 ++ m2 ∧ tq_al r l m1 ∧ tq_al r l2 m2
  | [], l2, m, q => ⟨[], m, rfl, trivial, q⟩
  | a :: l, l2, b :: m, q => by
    obtain ⟨m1, m2, e, q1, q2⟩ := tq_al.cut (l := l) q.2
    exact ⟨b :: m1, m2, by rw [e]; rfl, ⟨q.1, q1⟩, q2⟩
  | _ :: _, _, [], q => q.elim
theorem tq_al.fil {α β : Type} {r : α → β → Prop} {f : α → Bool} {g : β → Bool} (h : ∀ a b, r a b → f a = g b) : ∀ {l : List α} {m : List β}, tq_al r l m → tq_al r (l.filter f) (m.filter g)
  | [], [], _ => trivial
  | a :: l, b :: m, q => by
    have e := h a b q.1
    rw [List.filter_cons, List.filter_cons, e]
    cases g b
    · exact tq_al.fil h q.2
    · exact ⟨q.1, tq_al.fil h q.2⟩
  | [], _ :: _, q => q.elim
  | _ :: _, [], q => q.elim
theorem tq_pre {ad ad2 : List Nat} (h : ad <+: ad2) {k a : Nat} (e : ad[k]? = some a) : ad2[k]? = some a := by
  obtain ⟨t, rfl⟩ := h
  have hl := (List.getElem?_eq_some_iff.mp e).1
  rw [List.getElem?_append_left hl]
  exact e
theorem tq_vr.mono {ad ad2 : List Nat} (h : ad <+: ad2) {v w : Value} (q : tq_vr ad v w) : tq_vr ad2 v w := by
  cases v with
  | ref k => obtain ⟨a, h1, h2⟩ := q; exact ⟨a, tq_pre h h1, h2⟩
  | _ => exact q
theorem tq_xr.mono {ad ad2 : List Nat} (h : ad <+: ad2) {x y : (Nat → Int32) ⊕ (Nat → Int64) ⊕ (Nat → UInt32) ⊕ (Nat → UInt64) ⊕ (Nat → Option Nat)} (q : tq_xr ad x y) : tq_xr ad2 x y := by
  rcases x with x | x | x | x | x
  · exact q
  · exact q
  · exact q
  · exact q
  · obtain ⟨g, h1, h2⟩ := q
    exact ⟨g, h1, fun j => ⟨(h2 j).1, fun i hi => by obtain ⟨a, q1, q2⟩ := (h2 j).2 i hi; exact ⟨a, tq_pre h q1, q2⟩⟩⟩
theorem tq_or.mono {cA : Nat → ClassId} {ad ad2 : List Nat} (h : ad <+: ad2) {o : tq_O} {e : va_E} (q : tq_or cA ad o e) : tq_or cA ad2 o e := by
  rcases o with ⟨ci, fs⟩ | ⟨t, n, x⟩
  · obtain ⟨gs, h1, h2⟩ := q
    exact ⟨gs, h1, h2.mono fun _ _ => tq_vr.mono h⟩
  · obtain ⟨y, h1, h2⟩ := q
    exact ⟨y, h1, h2.mono h⟩
theorem tq_vr.cat {ad : List Nat} {v w : Value} (q : tq_vr ad v w) : v.category = w.category := by
  cases v with
  | ref k => obtain ⟨a, h1, rfl⟩ := q; rfl
  | float k => obtain ⟨a, rfl⟩ := q; rfl
  | _ => cases q; rfl
theorem tq_w.get {cA : Nat → ClassId} {h : tq_H} {ws : va_W} (W : tq_w cA h ws) {k a : Nat} (e : (tq_ad ws)[k]? = some a) : ∃ x, ws[k]? = some (a, x) ∧ tq_or cA (tq_ad ws) (h.2 k) x := by
  rw [List.getElem?_map] at e
  cases q : ws[k]? with
  | none => rw [q] at e; cases e
  | some z =>
    rw [q] at e
    obtain ⟨b, x⟩ := z
    cases e
    exact ⟨x, rfl, W.2 k _ q⟩
theorem tq_ad_set {ws : va_W} {k a : Nat} {x y : va_E} (e : ws[k]? = some (a, x)) : tq_ad (ws.set k (a, y)) = tq_ad ws := by
  apply List.ext_getElem?
  intro j
  rw [List.getElem?_map, List.getElem?_map]
  by_cases q : k = j
  · subst q
    rw [List.getElem?_set_self (List.getElem?_eq_some_iff.mp e).1, e]
    rfl
  · rw [List.getElem?_set_ne q]
theorem tq_w.set {cA : Nat → ClassId} {h : tq_H} {ws : va_W} (W : tq_w cA h ws) {k a : Nat} {x y : va_E} {o : tq_O} (e : ws[k]? = some (a, x)) (ho : tq_or cA (tq_ad ws) o y) : tq_w cA (tq_up h k o) (ws.set k (a, y)) := by
  refine ⟨by rw [List.length_set]; exact W.1, fun j q hq => ?_⟩
  rw [tq_ad_set e]
  by_cases z : k = j
  · subst z
    rw [List.getElem?_set_self (List.getElem?_eq_some_iff.mp e).1] at hq
    cases hq
    show tq_or cA _ (if k = k then o else h.2 k) y
    rw [if_pos rfl]
    exact ho
  · rw [List.getElem?_set_ne z] at hq
    show tq_or cA _ (if j = k then o else h.2 j) q.2
    rw [if_neg (fun r => z r.symm)]
    exact W.2 j q hq
theorem tq_ad_push (ws : va_W) (a : Nat) (y : va_E) : tq_ad (ws ++ [(a, y)]) = tq_ad ws ++ [a] := by simp [tq_ad]
theorem tq_ad_pre (ws : va_W) (a : Nat) (y : va_E) : tq_ad ws <+: tq_ad (ws ++ [(a, y)]) := by rw [tq_ad_push]; exact List.prefix_append _ _
theorem tq_w.push {cA : Nat → ClassId} {h : tq_H} {ws : va_W} (W : tq_w cA h ws) {a : Nat} {y : va_E} {o : tq_O} (ho : tq_or cA (tq_ad ws) o y) : tq_w cA (tq_new h o) (ws ++ [(a, y)]) ∧ tq_vr (tq_ad (ws ++ [(a, y)])) (.ref h.1) (.ref a) := by
  refine ⟨⟨by rw [List.length_append, W.1]; rfl, fun j q hq => ?_⟩, a, ?_, rfl⟩
  · by_cases hl : j < ws.length
    · rw [List.getElem?_append_left hl] at hq
      show tq_or cA _ (if j = h.1 then o else h.2 j) q.2
      rw [if_neg (by rw [← W.1]; omega)]
      exact (W.2 j q hq).mono (tq_ad_pre ws a y)
    · rw [List.getElem?_append_right (by omega)] at hq
      have hz : j - ws.length < 1 := (List.getElem?_eq_some_iff.mp hq).1
      have hj : j = ws.length := by omega
      subst hj
      rw [Nat.sub_self] at hq
      cases hq
      show tq_or cA _ (if ws.length = h.1 then o else h.2 ws.length) y
      rw [if_pos W.1]
      exact ho.mono (tq_ad_pre ws a y)
  · rw [tq_ad_push, ← W.1, List.getElem?_append_right (by simp [tq_ad])]
    simp [tq_ad]
/-- the texts of the class's throws, by their places in its file -/
def tq_str : List (Nat × String) := [(442, "there is no such node"), (448, "there is no such place"), (456, "an argument is out of its range"), (458, "it is no element"), (460, "there are 20 updates"), (151, "the root stays"), (166, "a text has no name"), (168, "an element has no value of its own"), (170, "neither the root nor an attribute is moved"), (179, "the updates do not go together or with the tree"), (192, "the updates make no tree"), (200, "the updates make no valid tree"), (452, "a place is not below 0"), (257, "there are 20 paths"), (462, "there is no such path"), (464, "it is no lower path"), (270, "only REPEAT has a path"), (466, "it is not the last path"), (468, "the path has a view"), (279, "the path has 5 steps"), (470, "the path has no step"), (475, "the last step has 2 conditions"), (477, "a reader does not see the node"), (450, "the path finds not so many"), (454, "there is no such type, state or view"), (479, "the schema is strict"), (358, "the tree is not valid"), (390, "there are 5 views"), (401, "there are 6 versions"), (481, "there is no such version"), (412, "there are updates in the list"), (414, "the version is not valid"), (435, "3 paths are hidden")]
def tq_isB : Cond → Bool
  | .declares .. => true
  | .castable .. => true
  | .methodLinkNest .. => true
  | _ => false
/-- the words that the good ones leave out -/
def tq_B : List Cond := lw_tbl.filter tq_isB
/-- exceptions' classes of which one is none of the other -/
def tq_nc : List (String × String) := [("java/lang/IllegalArgumentException", "java/lang/IndexOutOfBoundsException"), ("java/lang/IllegalStateException", "java/lang/IndexOutOfBoundsException"), ("java/lang/IndexOutOfBoundsException", "java/lang/IllegalArgumentException"), ("java/lang/IllegalStateException", "java/lang/IllegalArgumentException"), ("java/lang/IndexOutOfBoundsException", "java/lang/IllegalStateException"), ("java/lang/IllegalArgumentException", "java/lang/IllegalStateException")]
def tq_bx (U : State) : Prop := (∀ w ∈ tq_B, va_Nw w U) ∧ (∀ q ∈ tq_str, ∃ a, vk_R RX10 q.1 q.2 a U) ∧ va_AO "Treequery$Tree" U ∧ ∀ q ∈ tq_nc, va_Nc q.1 q.2 U
theorem tq_bx.warm {s U : State} (hW : s.WarmedH U.vm) (h : tq_bx s) : tq_bx U := by
  refine ⟨fun w hw => ?_, fun q hq => ?_, h.2.2.1.moved hW.alike, fun q hq => (h.2.2.2 q hq).moved hW.alike⟩
  · have h1 := h.1 w hw
    have h2 := (List.mem_filter.mp hw).2
    cases w <;> first | (cases h2; done) | exact va_Nw.warmD hW h1 | exact va_Nw.warmC hW h1 | exact va_Nw.warmM hW h1
  · obtain ⟨a, ha⟩ := h.2.1 q hq
    exact ⟨a, vk_R.warm hW ha⟩
theorem tq_bx.same {u U : State} (hv : U.vm = u.vm) (h : tq_bx u) : tq_bx U := by
  refine ⟨fun w hw => ?_, fun q hq => ?_, h.2.2.1.moved (by rw [hv]; exact Vm.Alike.refl _), fun q hq => (h.2.2.2 q hq).moved (by rw [hv]; exact Vm.Alike.refl _)⟩
  · have h1 := h.1 w hw
    have h2 := (List.mem_filter.mp hw).2
    cases w <;> first | (cases h2; done) | exact va_Nw.same rfl hv.symm h1
  · obtain ⟨a, ha⟩ := h.2.1 q hq
    exact ⟨a, vk_R.same hv ha⟩
/-- a method's body: its class, its bytecode, its locals, its answer's type, whether it makes an object, its table of handlers, the script that it reads -/
abbrev tq_M : Type := String × ByteArray × Nat × Option FieldType × Bool × List (Nat × Nat × Nat × Nat) × Option (Nat × Nat × (Nat → Int32))
def tq_end (D : va_G) (cA : Nat → ClassId) (A : Nat → Prop) (ad0 : List Nat) (h : tq_H) (t : State) : Prop := ∃ ws : va_W, va_P D tq_cl ws t.heap ∧ va_D A ws ∧ tq_w cA h ws ∧ ad0 <+: tq_ad ws
def tq_endv (D : va_G) (cA : Nat → ClassId) (A : Nat → Prop) (ad0 : List Nat) (v w : Value) (h : tq_H) (t : State) : Prop := ∃ ws : va_W, va_P D tq_cl ws t.heap ∧ va_D A ws ∧ tq_w cA h ws ∧ ad0 <+: tq_ad ws ∧ tq_vr (tq_ad ws) v w
def tq_Qc (D : va_G) (cA : Nat → ClassId) (A : Nat → Prop) (ad0 : List Nat) (Q : tq_R → tq_H → Prop) : Array Value → State → Outcome → State → Prop := fun _ st o t =>
  ((o = .returned none ∧ ∃ h, Q (.inl none) h ∧ tq_end D cA A ad0 h t) ∨ ∃ v w h, o = .returned (some w) ∧ Q (.inl (some v)) h ∧ tq_endv D cA A ad0 v w h t) ∧ va_F A st t
def tq_XC (D : va_G) (cA : Nat → ClassId) (A : Nat → Prop) (ad0 : List Nat) (Q : tq_R → tq_H → Prop) : String → State → State → Prop := fun E st t =>
  (∃ h, Q (.inr E) h ∧ tq_end D cA A ad0 h t) ∧ va_F A st t
def tq_zq (A : Nat → Prop) (U : State) (H : Heap) : Prop := vx_Zq Bundle.tN "UNASSIGNED_STACK" Bundle.steD A U H ∧ vx_Zq Bundle.tN "SUPPRESSED_SENTINEL" Bundle.listD A U H
/-- what a body stands on, all along -/
def tq_cx (l : Launch) (M : tq_M) (d : Nat) (p : Program) (R : Room) (s : State) (m : MethodId) (args : Array Value) (meth : Method) (c : Code) (D : va_G) (cA : Nat → ClassId) (A : Nat → Prop) (mc ms : Nat) : Prop :=
  p.tables.exec = Jvm.exec ∧ c.code = M.2.1 ∧ c.maxLocals = M.2.2.1 ∧ meth.sig.returnType = M.2.2.2.1 ∧ meth.locks = false ∧ s.vm.findClass M.1 = some m.cls ∧ (∀ w ∈ tq_G, w.before args s = true) ∧ va_K D tq_cl (tq_ty cA) s ∧ R.frames = d ∧ R.locals = 38 * d + 20 ∧ mc ≤ R.cells ∧ ms ≤ R.slots ∧ (∀ q, s.heap.size ≤ q → A q) ∧ tq_zq A s s.heap ∧ (M.2.2.2.2.1 = true → meth.name = "<init>") ∧ c.exceptionTable.toList = tableOf M.2.2.2.2.2.1 ∧ tq_bx s ∧ l.stackTraces = false ∧ (∀ q, M.2.2.2.2.2.2 = some q → va_X q.1 q.2.1 q.2.2 s s.heap ∧ q.1 < s.heap.size ∧ ¬ A q.1)
/-- the world now, and what of it the frame holds -/
def tq_dy (nL : Nat) (D : va_G) (cA : Nat → ClassId) (A : Nat → Prop) (ad0 : List Nat) (H0 : Heap) (h : tq_H) (L : List (Nat × Value)) (S : List Value) (H : Heap) (locs : List Loc) (ws : va_W) (ls : Array Slot) (S' : List Value) : Prop :=
  va_P D tq_cl ws H ∧ va_D A ws ∧ va_S A H0 H locs ∧ tq_w cA h ws ∧ ad0 <+: tq_ad ws ∧ tq_lv nL (tq_ad ws) L ls ∧ tq_al (tq_vr (tq_ad ws)) S S'
def tq_W (l : Launch) (M : tq_M) (d bc bs : Nat) (Q : tq_R → tq_H → Prop) (pc : Nat) (L : List (Nat × Value)) (S : List Value) (h : tq_H) : Prop :=
  ∀ ⦃p : Program⦄ ⦃e : Env⦄ ⦃R : Room⦄ ⦃s : State⦄ ⦃m : MethodId⦄ ⦃args : Array Value⦄ ⦃below : List Frame⦄ ⦃meth : Method⦄ ⦃c : Code⦄ ⦃D : va_G⦄ ⦃cA : Nat → ClassId⦄ ⦃A : Nat → Prop⦄ ⦃ad0 : List Nat⦄ ⦃mc ms : Nat⦄, tq_cx l M d p R s m args meth c D cA A mc ms →
  ∀ ⦃H : Heap⦄ ⦃locs : List Loc⦄ ⦃cells slots : Nat⦄ ⦃ws : va_W⦄ ⦃ls : Array Slot⦄ ⦃S' : List Value⦄, tq_dy M.2.2.1 D cA A ad0 s.heap h L S H locs ws ls S' → cells + bc ≤ mc → slots + bs ≤ ms →
  W p l e R s m args below meth c H locs cells slots (vx_MQ below (tq_Qc D cA A ad0 Q) (tq_XC D cA A ad0 Q) args s mc ms A) (F0 m pc ls S')
/-- the same, with an exception thrown in the frame -/
def tq_X (l : Launch) (M : tq_M) (d bc bs : Nat) (Q : tq_R → tq_H → Prop) (E : String) (pc : Nat) (L : List (Nat × Value)) (h : tq_H) : Prop :=
  ∀ ⦃p : Program⦄ ⦃e : Env⦄ ⦃R : Room⦄ ⦃s : State⦄ ⦃m : MethodId⦄ ⦃args : Array Value⦄ ⦃below : List Frame⦄ ⦃meth : Method⦄ ⦃c : Code⦄ ⦃D : va_G⦄ ⦃cA : Nat → ClassId⦄ ⦃A : Nat → Prop⦄ ⦃ad0 : List Nat⦄ ⦃mc ms : Nat⦄, tq_cx l M d p R s m args meth c D cA A mc ms →
  ∀ ⦃H : Heap⦄ ⦃locs : List Loc⦄ ⦃cells slots : Nat⦄ ⦃ws : va_W⦄ ⦃ls : Array Slot⦄ ⦃S' : List Value⦄ ⦃ce : Cell⦄ ⦃q : Addr⦄, tq_dy M.2.2.1 D cA A ad0 s.heap h L [] H locs ws ls [] → cells + bc ≤ mc → slots + bs ≤ ms → H[q]? = some ce → ce.vm = .none → s.vm.findClass E = some ce.cls →
  vx_W p l e R s m args below meth c H locs cells slots (vx_MQ below (tq_Qc D cA A ad0 Q) (tq_XC D cA A ad0 Q) args s mc ms A) (F0 m pc ls S') q
section TQ1
variable {nL : Nat} {D : va_G} {cA : Nat → ClassId} {A : Nat → Prop} {ad0 : List Nat} {H0 : Heap} {h : tq_H} {L : List (Nat × Value)} {S : List Value} {H : Heap} {locs : List Loc} {ws : va_W} {ls : Array Slot} {S' : List Value}
theorem tq_pop {v : Value} (Y : tq_dy nL D cA A ad0 H0 h L (v :: S) H locs ws ls S') : ∃ v' S1, S' = v' :: S1 ∧ tq_vr (tq_ad ws) v v' ∧ tq_dy nL D cA A ad0 H0 h L S H locs ws ls S1 := by
  obtain ⟨a, b, c, d, e, f, g⟩ := Y
  cases S' with
  | nil => exact g.elim
  | cons v' S1 => exact ⟨v', S1, rfl, g.1, a, b, c, d, e, f, g.2⟩
theorem tq_popI {x : Int32} (Y : tq_dy nL D cA A ad0 H0 h L (.int x :: S) H locs ws ls S') : ∃ S1, S' = .int x :: S1 ∧ tq_dy nL D cA A ad0 H0 h L S H locs ws ls S1 := by
  obtain ⟨v', S1, e, r, Y1⟩ := tq_pop Y
  exact ⟨S1, by rw [e, show v' = .int x from r], Y1⟩
theorem tq_popL {x : Int64} (Y : tq_dy nL D cA A ad0 H0 h L (.long x :: S) H locs ws ls S') : ∃ S1, S' = .long x :: S1 ∧ tq_dy nL D cA A ad0 H0 h L S H locs ws ls S1 := by
  obtain ⟨v', S1, e, r, Y1⟩ := tq_pop Y
  exact ⟨S1, by rw [e, show v' = .long x from r], Y1⟩
theorem tq_popN (Y : tq_dy nL D cA A ad0 H0 h L (.null :: S) H locs ws ls S') : ∃ S1, S' = .null :: S1 ∧ tq_dy nL D cA A ad0 H0 h L S H locs ws ls S1 := by
  obtain ⟨v', S1, e, r, Y1⟩ := tq_pop Y
  exact ⟨S1, by rw [e, show v' = .null from r], Y1⟩
theorem tq_popR {k : Nat} (Y : tq_dy nL D cA A ad0 H0 h L (.ref k :: S) H locs ws ls S') : ∃ a x S1, S' = .ref a :: S1 ∧ ws[k]? = some (a, x) ∧ tq_or cA (tq_ad ws) (h.2 k) x ∧ tq_dy nL D cA A ad0 H0 h L S H locs ws ls S1 := by
  obtain ⟨v', S1, e, ⟨a, h1, h2⟩, Y1⟩ := tq_pop Y
  obtain ⟨x, h3, h4⟩ := Y.2.2.2.1.get h1
  exact ⟨a, x, S1, by rw [e, h2], h3, h4, Y1⟩
theorem tq_psh {v v' : Value} (Y : tq_dy nL D cA A ad0 H0 h L S H locs ws ls S') (r : tq_vr (tq_ad ws) v v') : tq_dy nL D cA A ad0 H0 h L (v :: S) H locs ws ls (v' :: S') := by
  obtain ⟨a, b, c, d, e, f, g⟩ := Y
  exact ⟨a, b, c, d, e, f, r, g⟩
theorem tq_al_at {ad : List Nat} {L L' : List (Nat × Value)} (hal : tq_al (tq_lr ad) L L') {i : Nat} {v : Value} (hm : L.lookup i = some v) : ∃ v', (i, v') ∈ L' ∧ tq_vr ad v v' := by
  induction L generalizing L' with
  | nil => cases hm
  | cons q L ih =>
    cases L' with
    | nil => exact hal.elim
    | cons r L' =>
      obtain ⟨j, w⟩ := q
      obtain ⟨j', w'⟩ := r
      obtain ⟨⟨e1, e2⟩, e3⟩ := hal
      cases e1
      rw [List.lookup_cons] at hm
      split at hm
      · rename_i hq
        cases hm
        have hij : i = j := by simpa using hq
        subst hij
        exact ⟨w', List.mem_cons_self, e2⟩
      · obtain ⟨v', h1, h2⟩ := ih e3 hm
        exact ⟨v', List.mem_cons_of_mem _ h1, h2⟩
theorem tq_loc (Y : tq_dy nL D cA A ad0 H0 h L S H locs ws ls S') {i : Nat} {v : Value} (hl : L.lookup i = some v) : ∃ v', ls[i]? = some (.val v') ∧ tq_vr (tq_ad ws) v v' := by
  obtain ⟨L', h1, h2⟩ := Y.2.2.2.2.2.1
  obtain ⟨v', h3, h4⟩ := tq_al_at h2 hl
  exact ⟨v', h1.2.2 (i, v') h3, h4⟩
/-- locals behind a store of one slot -/
abbrev tq_st1 (L : List (Nat × Value)) (i : Nat) (v : Value) : List (Nat × Value) := (i, v) :: L.filter (fun q => !(q.1 == i) && !(q.1 + 1 == i && q.2.category == 2))
abbrev tq_st2 (L : List (Nat × Value)) (i : Nat) (v : Value) : List (Nat × Value) := (i, v) :: L.filter (fun q => !(q.1 == i) && (!(q.1 == i + 1) && !(q.1 + 1 == i && q.2.category == 2)))
theorem tq_al_st1 {ad : List Nat} {L' : List (Nat × Value)} (hal : tq_al (tq_lr ad) L L') (i : Nat) {v v' : Value} (r : tq_vr ad v v') : tq_al (tq_lr ad) (tq_st1 L i v) (tq_st1 L' i v') :=
  ⟨⟨rfl, r⟩, tq_al.fil (fun a b q => by rw [q.1, q.2.cat]) hal⟩
theorem tq_al_st2 {ad : List Nat} {L' : List (Nat × Value)} (hal : tq_al (tq_lr ad) L L') (i : Nat) {v v' : Value} (r : tq_vr ad v v') : tq_al (tq_lr ad) (tq_st2 L i v) (tq_st2 L' i v') :=
  ⟨⟨rfl, r⟩, tq_al.fil (fun a b q => by rw [q.1, q.2.cat]) hal⟩
theorem tq_dyl {L2 : List (Nat × Value)} {ls2 : Array Slot} (Y : tq_dy nL D cA A ad0 H0 h L S H locs ws ls S') (k : tq_lv nL (tq_ad ws) L2 ls2) : tq_dy nL D cA A ad0 H0 h L2 S H locs ws ls2 S' := by
  obtain ⟨a, b, c, d, e, f, g⟩ := Y
  exact ⟨a, b, c, d, e, k, g⟩
/-- an object's new contents -/
theorem tq_dyu {H1 : Heap} {locs1 : List Loc} {k a : Nat} {x y : va_E} {o : tq_O} (Y : tq_dy nL D cA A ad0 H0 h L S H locs ws ls S') (e : ws[k]? = some (a, x)) (ho : tq_or cA (tq_ad ws) o y)
    (P : va_P D tq_cl (ws.set k (a, y)) H1) (DD : va_D A (ws.set k (a, y))) (SS : va_S A H0 H1 locs1) : tq_dy nL D cA A ad0 H0 (tq_up h k o) L S H1 locs1 (ws.set k (a, y)) ls S' := by
  obtain ⟨-, -, -, w, e5, f, g⟩ := Y
  refine ⟨P, DD, SS, w.set e ho, ?_, ?_, ?_⟩
  · rw [tq_ad_set e]; exact e5
  · rw [tq_ad_set e]; exact f
  · rw [tq_ad_set e]; exact g
/-- a new object -/
theorem tq_dyn {H1 : Heap} {locs1 : List Loc} {a : Nat} {y : va_E} {o : tq_O} (Y : tq_dy nL D cA A ad0 H0 h L S H locs ws ls S') (ho : tq_or cA (tq_ad ws) o y)
    (P : va_P D tq_cl (ws ++ [(a, y)]) H1) (DD : va_D A (ws ++ [(a, y)])) (SS : va_S A H0 H1 locs1) : tq_dy nL D cA A ad0 H0 (tq_new h o) L (.ref h.1 :: S) H1 locs1 (ws ++ [(a, y)]) ls (.ref a :: S') := by
  obtain ⟨-, -, -, w, e5, ⟨L', f1, f2⟩, g⟩ := Y
  have hp := tq_ad_pre ws a y
  exact ⟨P, DD, SS, (w.push ho).1, List.IsPrefix.trans e5 hp, ⟨L', f1, f2.mono fun _ _ q => ⟨q.1, q.2.mono hp⟩⟩, (w.push ho).2, g.mono fun _ _ q => q.mono hp⟩
end TQ1
