/-! ===== worlds as a fixed shape and its contents ===== -/
/-- contents: of arrays of ints (and booleans), of longs; int fields, long fields; arrays of references; by the objects' numbers -/
abbrev tc_C : Type := (Nat → Nat → Int32) × (Nat → Nat → Int64) × (Nat → Nat → Int32) × (Nat → Nat → Int64) × (Nat → Nat → Option Nat)
def tc_v (F : Nat → Int32) (G : Nat → Int64) (k : Nat) (v : Value) : Value := match v with
  | .int _ => .int (F k)
  | .long _ => .long (G k)
  | v => v
def tc_fill (F : Nat → Int32) (G : Nat → Int64) : Nat → List Value → List Value
  | _, [] => []
  | k, v :: vs => tc_v F G k v :: tc_fill F G (k + 1) vs
def tc_ob (c : tc_C) (k : Nat) (o : tq_O) : tq_O := match o with
  | .inl (ci, fs) => .inl (ci, tc_fill (c.2.2.1 k) (c.2.2.2.1 k) 0 fs)
  | .inr (t, (n, .inl _)) => .inr (t, (n, .inl (c.1 k)))
  | .inr (t, (n, .inr (.inl _))) => .inr (t, (n, .inr (.inl (c.2.1 k))))
  | .inr (t, (n, .inr (.inr (.inl x)))) => .inr (t, (n, .inr (.inr (.inl x))))
  | .inr (t, (n, .inr (.inr (.inr (.inl x))))) => .inr (t, (n, .inr (.inr (.inr (.inl x)))))
  | .inr (t, (n, .inr (.inr (.inr (.inr _))))) => .inr (t, (n, .inr (.inr (.inr (.inr (c.2.2.2.2 k))))))
/-- the world of a shape with these contents -/
def tc_mk (S : tq_H) (c : tc_C) : tq_H := (S.1, fun k => tc_ob c k (S.2 k))
def tc_u {α : Type} (f : Nat → α) (k : Nat) (x : α) : Nat → α := fun j => if j = k then x else f j
def tc_I (c : tc_C) (a : Nat) (f : Nat → Int32) : tc_C := (tc_u c.1 a f, c.2)
def tc_J (c : tc_C) (a : Nat) (f : Nat → Int64) : tc_C := (c.1, tc_u c.2.1 a f, c.2.2)
def tc_F (c : tc_C) (q k : Nat) (x : Int32) : tc_C := (c.1, c.2.1, tc_u c.2.2.1 q (tc_u (c.2.2.1 q) k x), c.2.2.2)
def tc_G (c : tc_C) (q k : Nat) (x : Int64) : tc_C := (c.1, c.2.1, c.2.2.1, tc_u c.2.2.2.1 q (tc_u (c.2.2.2.1 q) k x), c.2.2.2.2)
def tc_R (c : tc_C) (a : Nat) (f : Nat → Option Nat) : tc_C := (c.1, c.2.1, c.2.2.1, c.2.2.2.1, tc_u c.2.2.2.2 a f)
theorem tc_us {α : Type} (f : Nat → α) (k : Nat) (x : α) : tc_u f k x k = x := if_pos rfl
theorem tc_un {α : Type} (f : Nat → α) {k j : Nat} (x : α) (h : j ≠ k) : tc_u f k x j = f j := if_neg h
theorem tc_fill_at (F : Nat → Int32) (G : Nat → Int64) : ∀ (fs : List Value) (i k : Nat), (tc_fill F G i fs)[k]? = (fs[k]?).map (tc_v F G (i + k))
  | [], i, k => by simp [tc_fill]
  | v :: vs, i, 0 => by simp [tc_fill]
  | v :: vs, i, k + 1 => by
    rw [tc_fill, List.getElem?_cons_succ, List.getElem?_cons_succ, tc_fill_at F G vs (i + 1) k]
    congr 2
    omega
theorem tc_fill_len (F : Nat → Int32) (G : Nat → Int64) : ∀ (fs : List Value) (i : Nat), (tc_fill F G i fs).length = fs.length
  | [], _ => rfl
  | _ :: vs, i => by rw [tc_fill, List.length_cons, List.length_cons, tc_fill_len F G vs]
theorem tc_fill_I (F : Nat → Int32) (G : Nat → Int64) (fs : List Value) (k : Nat) (x y : Int32) (h : fs[k]? = some (.int y)) : (tc_fill F G 0 fs).set k (.int x) = tc_fill (tc_u F k x) G 0 fs := by
  apply List.ext_getElem?
  intro j
  rw [tc_fill_at]
  have hl := (List.getElem?_eq_some_iff.mp h).1
  by_cases hj : k = j
  · subst hj
    rw [List.getElem?_set_self (by rw [tc_fill_len]; exact hl), h]
    simp [tc_v, tc_us]
  · rw [List.getElem?_set_ne hj, tc_fill_at]
    cases fs[j]? with
    | none => rfl
    | some v => cases v <;> simp [tc_v, tc_un F x (Ne.symm hj)]
theorem tc_fill_L (F : Nat → Int32) (G : Nat → Int64) (fs : List Value) (k : Nat) (x y : Int64) (h : fs[k]? = some (.long y)) : (tc_fill F G 0 fs).set k (.long x) = tc_fill F (tc_u G k x) 0 fs := by
  apply List.ext_getElem?
  intro j
  rw [tc_fill_at]
  have hl := (List.getElem?_eq_some_iff.mp h).1
  by_cases hj : k = j
  · subst hj
    rw [List.getElem?_set_self (by rw [tc_fill_len]; exact hl), h]
    simp [tc_v, tc_us]
  · rw [List.getElem?_set_ne hj, tc_fill_at]
    cases fs[j]? with
    | none => rfl
    | some v => cases v <;> simp [tc_v, tc_un G x (Ne.symm hj)]
section TC1
variable {S : tq_H} {c : tc_C} {q ci k t n : Nat} {fs : List Value}
theorem tc_o (h : S.2 q = .inl (ci, fs)) : (tc_mk S c).2 q = .inl (ci, tc_fill (c.2.2.1 q) (c.2.2.2.1 q) 0 fs) := by
  show tc_ob c q (S.2 q) = _
  rw [h]; rfl
theorem tc_gr (h : S.2 q = .inl (ci, fs)) (hk : fs[k]? = some (.ref t)) : tq_gr (tc_mk S c) q ci k = some t := by
  unfold tq_gr
  rw [tc_o h]
  simp [tc_fill_at, hk, tc_v]
theorem tc_gq (h : S.2 q = .inl (ci, fs)) (hk : fs[k]? = some (.ref t)) : tq_gq (tc_mk S c) q ci k = some (some t) := by
  unfold tq_gq
  rw [tc_o h]
  simp [tc_fill_at, hk, tc_v]
theorem tc_gqN (h : S.2 q = .inl (ci, fs)) (hk : fs[k]? = some .null) : tq_gq (tc_mk S c) q ci k = some none := by
  unfold tq_gq
  rw [tc_o h]
  simp [tc_fill_at, hk, tc_v]
theorem tc_gi {x : Int32} (h : S.2 q = .inl (ci, fs)) (hk : fs[k]? = some (.int x)) : tq_gi (tc_mk S c) q ci k = some (c.2.2.1 q k) := by
  unfold tq_gi
  rw [tc_o h]
  simp [tc_fill_at, hk, tc_v]
theorem tc_gl {x : Int64} (h : S.2 q = .inl (ci, fs)) (hk : fs[k]? = some (.long x)) : tq_gl (tc_mk S c) q ci k = some (c.2.2.2.1 q k) := by
  unfold tq_gl
  rw [tc_o h]
  simp [tc_fill_at, hk, tc_v]
theorem tc_is (h : S.2 q = .inl (ci, fs)) : tq_is (tc_mk S c) q ci = some () := by
  unfold tq_is
  rw [tc_o h]
  simp
theorem tc_pfI {x y : Int32} (h : S.2 q = .inl (ci, fs)) (hk : fs[k]? = some (.int y)) : tq_pf (tc_mk S c) q ci k (.int x) = some (tc_mk S (tc_F c q k x)) := by
  unfold tq_pf
  rw [tc_o h]
  have hl := (List.getElem?_eq_some_iff.mp hk).1
  simp only [tc_fill_len, hl, and_self, if_true, Option.some.injEq]
  refine Prod.ext rfl (funext fun j => ?_)
  show (if j = q then _ else tc_ob c j (S.2 j)) = tc_ob _ j (S.2 j)
  by_cases hj : j = q
  · subst hj
    rw [if_pos rfl, h, tc_fill_I _ _ _ _ _ _ hk]
    simp [tc_ob, tc_F, tc_us]
  · rw [if_neg hj]
    unfold tc_ob tc_F
    simp [tc_un _ _ hj]
theorem tc_pfL {x y : Int64} (h : S.2 q = .inl (ci, fs)) (hk : fs[k]? = some (.long y)) : tq_pf (tc_mk S c) q ci k (.long x) = some (tc_mk S (tc_G c q k x)) := by
  unfold tq_pf
  rw [tc_o h]
  have hl := (List.getElem?_eq_some_iff.mp hk).1
  simp only [tc_fill_len, hl, and_self, if_true, Option.some.injEq]
  refine Prod.ext rfl (funext fun j => ?_)
  show (if j = q then _ else tc_ob c j (S.2 j)) = tc_ob _ j (S.2 j)
  by_cases hj : j = q
  · subst hj
    rw [if_pos rfl, h, tc_fill_L _ _ _ _ _ _ hk]
    simp [tc_ob, tc_G, tc_us]
  · rw [if_neg hj]
    unfold tc_ob tc_G
    simp [tc_un _ _ hj]
theorem tc_a {t n : Nat} {x : (Nat → Int32) ⊕ (Nat → Int64) ⊕ (Nat → UInt32) ⊕ (Nat → UInt64) ⊕ (Nat → Option Nat)} (h : S.2 q = .inr (t, (n, x))) : ∃ y, (tc_mk S c).2 q = .inr (t, (n, y)) := by
  show ∃ y, tc_ob c q (S.2 q) = _
  rw [h]
  rcases x with x | x | x | x | x <;> exact ⟨_, rfl⟩
theorem tc_ia {t n : Nat} {g : Nat → Int32} (h : S.2 q = .inr (t, (n, .inl g))) : (tc_mk S c).2 q = .inr (t, (n, .inl (c.1 q))) := by
  show tc_ob c q (S.2 q) = _
  rw [h]; rfl
theorem tc_la {t n : Nat} {g : Nat → Int64} (h : S.2 q = .inr (t, (n, .inr (.inl g)))) : (tc_mk S c).2 q = .inr (t, (n, .inr (.inl (c.2.1 q)))) := by
  show tc_ob c q (S.2 q) = _
  rw [h]; rfl
theorem tc_qa {t n : Nat} {g : Nat → Option Nat} (h : S.2 q = .inr (t, (n, .inr (.inr (.inr (.inr g)))))) : (tc_mk S c).2 q = .inr (t, (n, .inr (.inr (.inr (.inr (c.2.2.2.2 q)))))) := by
  show tc_ob c q (S.2 q) = _
  rw [h]; rfl
theorem tc_an {t n : Nat} {x : (Nat → Int32) ⊕ (Nat → Int64) ⊕ (Nat → UInt32) ⊕ (Nat → UInt64) ⊕ (Nat → Option Nat)} (h : S.2 q = .inr (t, (n, x))) (ht : t < 4) : tq_an (tc_mk S c) q = some (Int32.ofNat n) := by
  obtain ⟨y, hy⟩ := tc_a (c := c) h
  unfold tq_an
  rw [hy]
  simp [ht]
theorem tc_ai {n : Nat} {g : Nat → Int32} (h : S.2 q = .inr (0, (n, .inl g))) (i : Int32) : tq_ai (tc_mk S c) q i = if i < 0 ∨ n ≤ i.toNatClampNeg then none else some (c.1 q i.toNatClampNeg) := by
  unfold tq_ai
  rw [tc_ia h]
  rfl
theorem tc_az {n : Nat} {g : Nat → Int32} (h : S.2 q = .inr (1, (n, .inl g))) (i : Int32) : tq_az (tc_mk S c) q i = if i < 0 ∨ n ≤ i.toNatClampNeg then none else some (c.1 q i.toNatClampNeg) := by
  unfold tq_az
  rw [tc_ia h]
  rfl
theorem tc_aj {n : Nat} {g : Nat → Int64} (h : S.2 q = .inr (2, (n, .inr (.inl g)))) (i : Int32) : tq_aj (tc_mk S c) q i = if i < 0 ∨ n ≤ i.toNatClampNeg then none else some (c.2.1 q i.toNatClampNeg) := by
  unfold tq_aj
  rw [tc_la h]
  rfl
theorem tc_aq {n : Nat} {g : Nat → Option Nat} (h : S.2 q = .inr (3, (n, .inr (.inr (.inr (.inr g)))))) (i : Int32) : tq_aq (tc_mk S c) q i = if i < 0 ∨ n ≤ i.toNatClampNeg then none else some (c.2.2.2.2 q i.toNatClampNeg) := by
  unfold tq_aq
  rw [tc_qa h]
  rfl
theorem tc_upI {t n : Nat} {g : Nat → Int32} (h : S.2 q = .inr (t, (n, .inl g))) (f : Nat → Int32) : tq_up (tc_mk S c) q (.inr (t, (n, .inl f))) = tc_mk S (tc_I c q f) := by
  refine Prod.ext rfl (funext fun j => ?_)
  show (if j = q then _ else tc_ob c j (S.2 j)) = tc_ob _ j (S.2 j)
  by_cases hj : j = q
  · subst hj
    rw [if_pos rfl, h]
    simp [tc_ob, tc_I, tc_us]
  · rw [if_neg hj]
    unfold tc_ob tc_I
    simp [tc_un _ _ hj]
theorem tc_upL {t n : Nat} {g : Nat → Int64} (h : S.2 q = .inr (t, (n, .inr (.inl g)))) (f : Nat → Int64) : tq_up (tc_mk S c) q (.inr (t, (n, .inr (.inl f)))) = tc_mk S (tc_J c q f) := by
  refine Prod.ext rfl (funext fun j => ?_)
  show (if j = q then _ else tc_ob c j (S.2 j)) = tc_ob _ j (S.2 j)
  by_cases hj : j = q
  · subst hj
    rw [if_pos rfl, h]
    simp [tc_ob, tc_J, tc_us]
  · rw [if_neg hj]
    unfold tc_ob tc_J
    simp [tc_un _ _ hj]
theorem tc_si {n : Nat} {g : Nat → Int32} (h : S.2 q = .inr (0, (n, .inl g))) (i x : Int32) : tq_si (tc_mk S c) q i x = if i < 0 ∨ n ≤ i.toNatClampNeg then none else some (tc_mk S (tc_I c q (upd (c.1 q) i.toNatClampNeg x))) := by
  unfold tq_si
  rw [tc_ia h]
  simp only [tc_upI h]
theorem tc_sl {n : Nat} {g : Nat → Int64} (h : S.2 q = .inr (2, (n, .inr (.inl g)))) (i : Int32) (x : Int64) : tq_sl (tc_mk S c) q i x = if i < 0 ∨ n ≤ i.toNatClampNeg then none else some (tc_mk S (tc_J c q (vp_updL (c.2.1 q) i.toNatClampNeg x))) := by
  unfold tq_sl
  rw [tc_la h]
  simp only [tc_upL h]
theorem tc_sz {n : Nat} {g : Nat → Int32} (h : S.2 q = .inr (1, (n, .inl g))) (i x : Int32) : tq_sz (tc_mk S c) q i x = if i < 0 ∨ n ≤ i.toNatClampNeg then none else if x = 0 ∨ x = 1 then some (tc_mk S (tc_I c q (upd (c.1 q) i.toNatClampNeg x))) else none := by
  unfold tq_sz
  rw [tc_ia h]
  simp only [tc_upI h]
theorem tc_cp {q1 n0 n1 : Nat} {g0 g1 : Nat → Int32} (h0 : S.2 q = .inr (0, (n0, .inl g0))) (h1 : S.2 q1 = .inr (0, (n1, .inl g1))) (sp dp n : Int32) : tq_cp (tc_mk S c) q sp q1 dp n = if sp < 0 ∨ dp < 0 ∨ n < 0 ∨ n0 < sp.toNatClampNeg + n.toNatClampNeg ∨ n1 < dp.toNatClampNeg + n.toNatClampNeg then none else some (tc_mk S (tc_I c q1 (va_cpy (c.1 q) (c.1 q1) sp.toNatClampNeg dp.toNatClampNeg n.toNatClampNeg))) := by
  unfold tq_cp
  rw [tc_ia h0, tc_ia h1]
  simp only [tc_upI h1]
end TC1
