/-! ===== a store's place in a heap, between calls ===== -/
section PLC
variable {r r' : Nat → Nat} {d d' D : Nat → Prop} {W W' H H' : tq_H} {o : tq_O}
theorem oko_mono (h : ∀ k, d k → d' k) (z : oko d o) : oko d' o := by
  rcases o with ⟨ci, fs⟩ | ⟨t, n, x⟩
  · intro v hv
    have := z v hv
    cases v <;> first | exact trivial | exact h _ this
  · rcases x with x | x | x | x | x
    · exact trivial
    · exact trivial
    · exact trivial
    · exact trivial
    · exact fun j k hj hk => h k (z j k hj hk)
theorem oko_and (z : oko d o) (z' : oko d' o) : oko (fun k => d k ∧ d' k) o := by
  rcases o with ⟨ci, fs⟩ | ⟨t, n, x⟩
  · intro v hv
    have h1 := z v hv
    have h2 := z' v hv
    cases v <;> first | exact trivial | exact ⟨h1, h2⟩
  · rcases x with x | x | x | x | x
    · exact trivial
    · exact trivial
    · exact trivial
    · exact trivial
    · exact fun j k hj hk => ⟨z j k hj hk, z' j k hj hk⟩
theorem mo_cg (h : ∀ k, d k → r k = r' k) (z : oko d o) : mo r o = mo r' o := by
  rcases o with ⟨ci, fs⟩ | ⟨t, n, x⟩
  · show Sum.inl (ci, fs.map (mv r)) = Sum.inl (ci, fs.map (mv r'))
    rw [List.map_congr_left (g := mv r') (fun v hv => by
      have := z v hv
      cases v with
      | ref k => show Value.ref (r k) = .ref (r' k); rw [h k this]
      | _ => rfl)]
  · rcases x with x | x | x | x | x
    · rfl
    · rfl
    · rfl
    · rfl
    · show Sum.inr (t, (n, Sum.inr (Sum.inr (Sum.inr (Sum.inr (fun j => if j < n then (x j).map r else none)))))) = Sum.inr (t, (n, Sum.inr (Sum.inr (Sum.inr (Sum.inr (fun j => if j < n then (x j).map r' else none))))))
      have e : (fun j => if j < n then (x j).map r else none) = (fun j => if j < n then (x j).map r' else none) := by
        funext j
        by_cases hj : j < n
        · rw [if_pos hj, if_pos hj]
          cases hx : x j with
          | none => rfl
          | some k => show some (r k) = some (r' k); rw [h k (z j k hj hx)]
        · rw [if_neg hj, if_neg hj]
      rw [e]
/-- the store W (with its ghost) lies in H: the objects d at the places r -/
def Rl (r : Nat → Nat) (d : Nat → Prop) (W H : tq_H) : Prop :=
  d 0 ∧ (∀ q q', d q → d q' → r q = r q' → q = q') ∧
  (∀ q, d q → (q < W.1 ∧ r q < H.1 ∧ (q < 155 ∨ 206 ≤ q)) ∧ oko d (W.2 q) ∧ H.2 (r q) = mo r (W.2 q)) ∧
  (∀ j, W.1 ≤ j → W.2 j = junk) ∧ (∀ j, H.1 ≤ j → H.2 j = junk) ∧ 206 ≤ W.1
/-- the places for a call: what is new goes behind -/
def rN (r : Nat → Nat) (W H : tq_H) (q : Nat) : Nat := if q < W.1 then r q else H.1 + (q - W.1)
def dN (d : Nat → Prop) (W : tq_H) (q : Nat) : Prop := d q ∨ W.1 ≤ q
theorem rN_lt {q : Nat} (h : q < W.1) : rN r W H q = r q := if_pos h
theorem rN_ge {q : Nat} (h : W.1 ≤ q) : rN r W H q = H.1 + (q - W.1) := if_neg (by omega)
theorem Rl.em (h : Rl r d W H) : Em (rN r W H) (dN d W) W H True W H := by
  obtain ⟨h0, h1, h2, h3, h4, h5⟩ := h
  refine ⟨?_, ?_, fun _ _ => rfl, fun _ _ => rfl, fun _ k => ⟨Or.inr (Nat.le_add_right _ _), ?_, h3 _ (Nat.le_add_right _ _)⟩, Nat.le_refl _, rfl, fun n => absurd trivial n⟩
  · intro q q' hq hq' e
    rcases Nat.lt_or_ge q W.1 with a | a
    · have dq : d q := hq.resolve_right (by omega)
      rw [rN_lt a] at e
      rcases Nat.lt_or_ge q' W.1 with a' | a'
      · have dq' : d q' := hq'.resolve_right (by omega)
        rw [rN_lt a'] at e
        exact h1 q q' dq dq' e
      · rw [rN_ge a'] at e
        have := (h2 q dq).1.2.1
        omega
    · rw [rN_ge a] at e
      rcases Nat.lt_or_ge q' W.1 with a' | a'
      · have dq' : d q' := hq'.resolve_right (by omega)
        rw [rN_lt a'] at e
        have := (h2 q' dq').1.2.1
        omega
      · rw [rN_ge a'] at e
        omega
  · intro q hq
    rcases Nat.lt_or_ge q W.1 with a | a
    · have dq : d q := hq.resolve_right (by omega)
      obtain ⟨-, g1, g2⟩ := h2 q dq
      refine ⟨oko_mono (fun k hk => Or.inl hk) g1, ?_⟩
      rw [rN_lt a, g2]
      exact mo_cg (fun k hk => (rN_lt (h2 k hk).1.1).symm) g1
    · rw [h3 q a, rN_ge a, h4 _ (Nat.le_add_right _ _)]
      exact ⟨fun v hv => by simp at hv, rfl⟩
  · rw [rN_ge (Nat.le_add_right _ _)]
    omega
/-- behind a call -/
theorem Rl.back (h : Rl r d W H) (e : Em (rN r W H) (dN d W) W H True W' H') (D0 : D 0) (hD : ∀ q, D q → (q < W'.1 ∧ (q < 155 ∨ 206 ≤ q)) ∧ oko D (W'.2 q)) : Rl (rN r W H) (fun q => dN d W q ∧ D q) W' H' := by
  obtain ⟨h0, h1, h2, h3, h4, h5⟩ := h
  obtain ⟨e1, e2, e3, e4, e5, e6, e7, e8⟩ := e
  refine ⟨⟨Or.inl h0, D0⟩, fun q q' hq hq' => e1 q q' hq.1 hq'.1, fun q hq => ⟨⟨(hD q hq.2).1.1, ?_, (hD q hq.2).1.2⟩, oko_and (e2 q hq.1).1 (hD q hq.2).2, (e2 q hq.1).2⟩, ?_, ?_, by omega⟩
  · have hb := (hD q hq.2).1.1
    rcases Nat.lt_or_ge q W.1 with a | a
    · have dq : d q := hq.1.resolve_right (by omega)
      rw [rN_lt a]
      have := (h2 q dq).1.2.1
      omega
    · rw [rN_ge a]
      omega
  · intro j hj
    obtain ⟨-, -, z⟩ := e5 trivial (j - W'.1)
    rwa [show W'.1 + (j - W'.1) = j by omega] at z
  · intro j hj
    obtain ⟨z1, z2, z3⟩ := e5 trivial (j - H'.1)
    rw [show H'.1 + (j - H'.1) = j by omega] at z2
    rw [← z2, (e2 _ z1).2, z3]
    rfl
/-- what the call left alone -/
theorem Em.off (h : Rl r d W H) (e : Em (rN r W H) (dN d W) W H True W' H') : (∀ j, j < H.1 → (∀ q, d q → r q ≠ j) → H'.2 j = H.2 j) ∧ (∀ q, 155 ≤ q → q ≤ 205 → W'.2 q = W.2 q) ∧ H.1 ≤ H'.1 ∧ W.1 ≤ W'.1 := by
  obtain ⟨h0, h1, h2, h3, h4, h5⟩ := h
  obtain ⟨e1, e2, e3, e4, e5, e6, e7, e8⟩ := e
  refine ⟨fun j hj hq => e4 j fun q hd z => ?_, fun q a b => e3 q fun z => ?_, by omega, e6⟩
  · rcases Nat.lt_or_ge q W.1 with a | a
    · rw [rN_lt a] at z
      exact hq q (hd.resolve_right (by omega)) z
    · rw [rN_ge a] at z
      omega
  · rcases z with z | z
    · have := (h2 q z).1.2.2
      omega
    · omega
/-- another store, and what else lies there, is left alone -/
theorem Rl.keep {r2 : Nat → Nat} {d2 : Nat → Prop} {W2 : tq_H} (h2 : Rl r2 d2 W2 H) (hd : ∀ q q', d q → d2 q' → r q ≠ r2 q') (h : Rl r d W H) (e : Em (rN r W H) (dN d W) W H True W' H') : Rl r2 d2 W2 H' ∧ ∀ q q', (dN d W q ∧ D q) → d2 q' → rN r W H q ≠ r2 q' := by
  obtain ⟨f1, f2, f3, f4⟩ := Em.off h e
  have tl : ∀ j, H'.1 ≤ j → H'.2 j = junk := by
    intro j hj
    obtain ⟨z1, z2, z3⟩ := e.2.2.2.2.1 trivial (j - H'.1)
    rw [show H'.1 + (j - H'.1) = j by omega] at z2
    rw [← z2, (e.2.1 _ z1).2, z3]
    rfl
  obtain ⟨k0, k1, k2, k3, k4, k5⟩ := h2
  refine ⟨⟨k0, k1, fun q hq => ?_, k3, tl, k5⟩, fun q q' hq hq' z => ?_⟩
  · obtain ⟨⟨a1, a2, a3⟩, b1, b2⟩ := k2 q hq
    refine ⟨⟨a1, by omega, a3⟩, b1, ?_⟩
    rw [f1 (r2 q) a2 (fun q' hq' z => hd q' q hq' hq z), b2]
  · rcases Nat.lt_or_ge q W.1 with a | a
    · rw [rN_lt a] at z
      exact hd q q' (hq.1.resolve_right (by omega)) hq' z
    · rw [rN_ge a] at z
      have := (k2 q' hq').1.2.1
      omega
/-- the ghost may go on by itself -/
theorem Rl.ghost (h : Rl r d W H) (h1 : W'.1 = W.1) (h2 : ∀ q, (q < 155 ∨ 206 ≤ q) → W'.2 q = W.2 q) : Rl r d W' H := by
  obtain ⟨k0, k1, k2, k3, k4, k5⟩ := h
  refine ⟨k0, k1, fun q hq => ?_, fun j hj => ?_, k4, by omega⟩
  · obtain ⟨⟨a1, a2, a3⟩, b1, b2⟩ := k2 q hq
    rw [h2 q a3, h1]
    exact ⟨⟨a1, a2, a3⟩, b1, b2⟩
  · rw [h2 j (Or.inr (by omega))]
    exact k3 j (by omega)
end PLC
