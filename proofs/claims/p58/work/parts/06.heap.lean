/-! ===== fields, arrays, new things, answers, throws ===== -/
section TQ3
variable {l : Launch} {M : tq_M} {d bc bs : Nat} {Q : tq_R → tq_H → Prop} {pc : Nat} {L : List (Nat × Value)} {S : List Value} {h : tq_H}
/-- a class's row: its name, fields, how many, their types; and what the tables say of them -/
def tq_cok (ci : Nat) (C : String) (T : u_T) (N : Nat) (ty : Nat → FieldType) : Prop := tq_cl[ci]? = some (C, T, N) ∧ (∀ w ∈ u_ws C T N, w ∈ tq_G) ∧ (∀ k, k < N → parseFieldDescriptor (T k).2.2.1 = some (ty k)) ∧ (∀ a, a < N → ∀ b, b < N → a ≠ b → (T a).2.1 ≠ (T b).2.1)
theorem tq_getf {ci : Nat} {C : String} {T : u_T} {N : Nat} {ty : Nat → FieldType} (hC : tq_cok ci C T N ty) (k0 : Nat) (hk : k0 < N) {idx : Nat} (hd : decode M.2.1 pc = .ok (.getfield idx, 3)) (hw : Cond.fieldLink M.1 idx C (T k0).2.1 (T k0).2.2.1 ∈ tq_G) (hown : (T k0).1 = C)
    {q : Nat} {fs : List Value} (ho : h.2 q = .inl (ci, fs)) {v : Value} (hv : fs[k0]? = some v) (k : tq_W l M d bc bs Q (pc + 3) L (v :: S) h) : tq_W l M d bc bs Q pc L (.ref q :: S) h := by
  intro p e R s m args below meth c D cA A ad0 mc ms X H locs cells slots ws ls S' Y hc hs
  obtain ⟨a, x, S1, rfl, e1, e2, Y1⟩ := tq_popR Y
  rw [ho] at e2
  obtain ⟨gs, rfl, e3⟩ := e2
  obtain ⟨w, e4, e5⟩ := e3.at hv
  exact va_get (D := D) X.1 X.2.1 X.2.2.2.2.2.2.1 hC.2.1 X.2.2.2.2.2.1 X.2.2.2.2.2.2.2.1 Y.1 q e1 hC.1 k0 hk (X.2.2.2.2.2.2.1 _ hw) (fun x hx => by rw [hown] at hx; exact hx) e4 hd (k X (tq_psh Y1 e5) hc hs)
theorem tq_putf {ci : Nat} {C : String} {T : u_T} {N : Nat} {ty : Nat → FieldType} (hC : tq_cok ci C T N ty) (k0 : Nat) (hk : k0 < N) {idx : Nat} (hd : decode M.2.1 pc = .ok (.putfield idx, 3)) (hw : Cond.fieldLink M.1 idx C (T k0).2.1 (T k0).2.2.1 ∈ tq_G) (hown : (T k0).1 = C) (hfin : (T k0).2.2.2 = false ∨ (M.2.2.2.2.1 = true ∧ C = M.1))
    {q : Nat} {fs : List Value} (ho : h.2 q = .inl (ci, fs)) (hl : k0 < fs.length) {v : Value} (hn : ∀ (ad : List Nat) (w : Value), tq_vr ad v w → narrow (ty k0) w = w ∧ fits (ty k0) w = true) (k : tq_W l M d bc bs Q (pc + 3) L S (tq_up h q (.inl (ci, fs.set k0 v)))) : tq_W l M d bc bs Q pc L (v :: .ref q :: S) h := by
  intro p e R s m args below meth c D cA A ad0 mc ms X H locs cells slots ws ls S' Y hc hs
  obtain ⟨w, S0, rfl, e0, Y0⟩ := tq_pop Y
  obtain ⟨a, x, S1, rfl, e1, e2, Y1⟩ := tq_popR Y0
  rw [ho] at e2
  obtain ⟨gs, rfl, e3⟩ := e2
  have hn2 := hn _ _ e0
  cases hF : (T k0).2.2.2 with
  | false =>
    exact va_put (D := D) X.1 X.2.1 X.2.2.2.2.2.2.1 hC.2.1 ty hC.2.2.1 hC.2.2.2 X.2.2.2.2.2.1 X.2.2.2.2.2.2.2.1 Y.1 Y.2.1 Y.2.2.1 q e1 hC.1 k0 hk (X.2.2.2.2.2.2.1 _ hw) (fun x hx => by rw [hown] at hx; exact hx) hF (hC.2.2.1 k0 hk) hn2.1 hn2.2 (by rw [← e3.len]; exact hl) hd
      (fun H1 locs1 P1 D1 S1 => k X (tq_dyu Y1 e1 ⟨_, rfl, e3.set e0 k0⟩ P1 D1 S1) hc hs)
  | true =>
    rcases hfin with z | ⟨z1, z2⟩
    · rw [hF] at z; cases z
    · exact va_putF (D := D) X.1 X.2.1 X.2.2.2.2.2.2.1 hC.2.1 ty hC.2.2.1 hC.2.2.2 X.2.2.2.2.2.1 X.2.2.2.2.2.2.2.1 Y.1 Y.2.1 Y.2.2.1 q e1 hC.1 k0 hk (X.2.2.2.2.2.2.1 _ hw) (fun x hx => by rw [hown] at hx; exact hx) hF (X.2.2.2.2.2.2.2.2.2.2.2.2.2.2.1 z1) (by rw [hown]; exact z2) (hC.2.2.1 k0 hk) hn2.1 hn2.2 (by rw [← e3.len]; exact hl) hd
        (fun H1 locs1 P1 D1 S1 => k X (tq_dyu Y1 e1 ⟨_, rfl, e3.set e0 k0⟩ P1 D1 S1) hc hs)
theorem tq_nI (x : Int32) (ad : List Nat) (w : Value) (h : tq_vr ad (.int x) w) : narrow .int w = w ∧ fits .int w = true := by cases (show w = .int x from h); exact ⟨rfl, rfl⟩
theorem tq_nL (x : Int64) (ad : List Nat) (w : Value) (h : tq_vr ad (.long x) w) : narrow .long w = w ∧ fits .long w = true := by cases (show w = .long x from h); exact ⟨rfl, rfl⟩
theorem tq_nZ (b : Bool) (ad : List Nat) (w : Value) (h : tq_vr ad (.int (if b then 1 else 0)) w) : narrow .boolean w = w ∧ fits .boolean w = true := by
  cases (show w = .int (if b then 1 else 0) from h)
  cases b <;> exact ⟨by decide +kernel, by decide +kernel⟩
theorem tq_nR (k : Nat) (C : String) (ad : List Nat) (w : Value) (h : tq_vr ad (.ref k) w) : narrow (.object C) w = w ∧ fits (.object C) w = true := by obtain ⟨a, -, rfl⟩ := h; exact ⟨rfl, rfl⟩
theorem tq_nA (k : Nat) (t : FieldType) (ad : List Nat) (w : Value) (h : tq_vr ad (.ref k) w) : narrow (.array t) w = w ∧ fits (.array t) w = true := by obtain ⟨a, -, rfl⟩ := h; exact ⟨rfl, rfl⟩
-- arrays
theorem tq_alen (hd : decode M.2.1 pc = .ok (.arraylength, 1)) {q t n : Nat} {x : (Nat → Int32) ⊕ (Nat → Int64) ⊕ (Nat → UInt32) ⊕ (Nat → UInt64) ⊕ (Nat → Option Nat)} (ho : h.2 q = .inr (t, (n, x))) (ht : t < 4) (k : tq_W l M d bc bs Q (pc + 1) L (.int (Int32.ofNat n) :: S) h) : tq_W l M d bc bs Q pc L (.ref q :: S) h := by
  intro p e R s m args below meth c D cA A ad0 mc ms X H locs cells slots ws ls S' Y hc hs
  obtain ⟨a, z, S1, rfl, e1, e2, Y1⟩ := tq_popR Y
  rw [ho] at e2
  obtain ⟨y, rfl, e3⟩ := e2
  have ht2 : ∃ ty, (tq_ty cA)[t]? = some (cA t, ty) := by
    rcases (show t = 0 ∨ t = 1 ∨ t = 2 ∨ t = 3 by omega) with rfl | rfl | rfl | rfl <;> exact ⟨_, rfl⟩
  obtain ⟨ty, ht3⟩ := ht2
  exact va_alen (D := D) X.1 X.2.1 X.2.2.2.2.2.2.2.1 Y.1 q t e1 ht3 rfl hd (k X (tq_psh Y1 rfl) hc hs)
theorem tq_iald (hd : decode M.2.1 pc = .ok (.iaload, 1)) {q n : Nat} {f : Nat → Int32} (ho : h.2 q = .inr (0, (n, .inl f))) {i : Int32} (hi : vp_in i n) (k : tq_W l M d bc bs Q (pc + 1) L (.int (f i.toNatClampNeg) :: S) h) : tq_W l M d bc bs Q pc L (.int i :: .ref q :: S) h := by
  intro p e R s m args below meth c D cA A ad0 mc ms X H locs cells slots ws ls S' Y hc hs
  obtain ⟨_, rfl, Y0⟩ := tq_popI Y
  obtain ⟨a, z, S1, rfl, e1, e2, Y1⟩ := tq_popR Y0
  rw [ho] at e2
  obtain ⟨y, rfl, e3⟩ := e2
  cases (show y = .inl f from e3)
  exact va_iald (D := D) X.1 X.2.1 X.2.2.2.2.2.2.2.1 Y.1 q 0 e1 rfl hi hd (k X (tq_psh Y1 rfl) hc hs)
theorem tq_lald (hd : decode M.2.1 pc = .ok (.laload, 1)) {q n : Nat} {f : Nat → Int64} (ho : h.2 q = .inr (2, (n, .inr (.inl f)))) {i : Int32} (hi : vp_in i n) (k : tq_W l M d bc bs Q (pc + 1) L (.long (f i.toNatClampNeg) :: S) h) : tq_W l M d bc bs Q pc L (.int i :: .ref q :: S) h := by
  intro p e R s m args below meth c D cA A ad0 mc ms X H locs cells slots ws ls S' Y hc hs
  obtain ⟨_, rfl, Y0⟩ := tq_popI Y
  obtain ⟨a, z, S1, rfl, e1, e2, Y1⟩ := tq_popR Y0
  rw [ho] at e2
  obtain ⟨y, rfl, e3⟩ := e2
  cases (show y = .inr (.inl f) from e3)
  exact va_lald (D := D) X.1 X.2.1 X.2.2.2.2.2.2.2.1 Y.1 q 2 e1 rfl hi hd (k X (tq_psh Y1 rfl) hc hs)
def tq_rf (o : Option Nat) : Value := match o with
  | none => .null
  | some k => .ref k
theorem tq_aald (hd : decode M.2.1 pc = .ok (.aaload, 1)) {q n : Nat} {f : Nat → Option Nat} (ho : h.2 q = .inr (3, (n, .inr (.inr (.inr (.inr f)))))) {i : Int32} (hi : vp_in i n) (k : tq_W l M d bc bs Q (pc + 1) L (tq_rf (f i.toNatClampNeg) :: S) h) : tq_W l M d bc bs Q pc L (.int i :: .ref q :: S) h := by
  intro p e R s m args below meth c D cA A ad0 mc ms X H locs cells slots ws ls S' Y hc hs
  obtain ⟨_, rfl, Y0⟩ := tq_popI Y
  obtain ⟨a, z, S1, rfl, e1, e2, Y1⟩ := tq_popR Y0
  rw [ho] at e2
  obtain ⟨y, rfl, g, rfl, e4⟩ := e2
  refine va_aldq (D := D) X.1 X.2.1 X.2.2.2.2.2.2.2.1 Y.1 q 3 e1 rfl hi hd (k X (tq_psh Y1 ?_) hc hs)
  have e5 := e4 i.toNatClampNeg
  cases hf : f i.toNatClampNeg with
  | none => rw [e5.1 hf]; rfl
  | some j =>
    obtain ⟨b, b1, b2⟩ := e5.2 j hf
    rw [b2]
    exact ⟨b, b1, rfl⟩
theorem tq_iast (hd : decode M.2.1 pc = .ok (.iastore, 1)) {q n : Nat} {f : Nat → Int32} (ho : h.2 q = .inr (0, (n, .inl f))) {i x : Int32} (hi : vp_in i n) (k : tq_W l M d bc bs Q (pc + 1) L S (tq_up h q (.inr (0, (n, .inl (upd f i.toNatClampNeg x)))))) : tq_W l M d bc bs Q pc L (.int x :: .int i :: .ref q :: S) h := by
  intro p e R s m args below meth c D cA A ad0 mc ms X H locs cells slots ws ls S' Y hc hs
  obtain ⟨_, rfl, Y0⟩ := tq_popI Y
  obtain ⟨_, rfl, Y2⟩ := tq_popI Y0
  obtain ⟨a, z, S1, rfl, e1, e2, Y1⟩ := tq_popR Y2
  rw [ho] at e2
  obtain ⟨y, rfl, e3⟩ := e2
  cases (show y = .inl f from e3)
  exact va_iast (D := D) X.1 X.2.1 X.2.2.2.2.2.2.2.1 Y.1 Y.2.1 Y.2.2.1 q 0 e1 rfl hi hd (fun H1 locs1 P1 D1 S1 => k X (tq_dyu Y1 e1 ⟨_, rfl, rfl⟩ P1 D1 S1) hc hs)
theorem tq_last (hd : decode M.2.1 pc = .ok (.lastore, 1)) {q n : Nat} {f : Nat → Int64} (ho : h.2 q = .inr (2, (n, .inr (.inl f)))) {i : Int32} {x : Int64} (hi : vp_in i n) (k : tq_W l M d bc bs Q (pc + 1) L S (tq_up h q (.inr (2, (n, .inr (.inl (vp_updL f i.toNatClampNeg x))))))) : tq_W l M d bc bs Q pc L (.long x :: .int i :: .ref q :: S) h := by
  intro p e R s m args below meth c D cA A ad0 mc ms X H locs cells slots ws ls S' Y hc hs
  obtain ⟨_, rfl, Y0⟩ := tq_popL Y
  obtain ⟨_, rfl, Y2⟩ := tq_popI Y0
  obtain ⟨a, z, S1, rfl, e1, e2, Y1⟩ := tq_popR Y2
  rw [ho] at e2
  obtain ⟨y, rfl, e3⟩ := e2
  cases (show y = .inr (.inl f) from e3)
  exact va_last (D := D) X.1 X.2.1 X.2.2.2.2.2.2.2.1 Y.1 Y.2.1 Y.2.2.1 q 2 e1 rfl hi hd (fun H1 locs1 P1 D1 S1 => k X (tq_dyu Y1 e1 ⟨_, rfl, rfl⟩ P1 D1 S1) hc hs)
theorem tq_aast (hd : decode M.2.1 pc = .ok (.aastore, 1)) {q n : Nat} {f : Nat → Option Nat} (ho : h.2 q = .inr (3, (n, .inr (.inr (.inr (.inr f)))))) {i : Int32} {v : Nat} {fs : List Value} (hv : h.2 v = .inl (8, fs)) (hi : vp_in i n) (k : tq_W l M d bc bs Q (pc + 1) L S (tq_up h q (.inr (3, (n, .inr (.inr (.inr (.inr (va_up f i.toNatClampNeg (some v)))))))))) : tq_W l M d bc bs Q pc L (.ref v :: .int i :: .ref q :: S) h := by
  intro p e R s m args below meth c D cA A ad0 mc ms X H locs cells slots ws ls S' Y hc hs
  obtain ⟨b, zb, Sb, rfl, eb1, eb2, Yb⟩ := tq_popR Y
  obtain ⟨_, rfl, Y2⟩ := tq_popI Yb
  obtain ⟨a, z, S1, rfl, e1, e2, Y1⟩ := tq_popR Y2
  rw [ho] at e2
  obtain ⟨y, rfl, g, rfl, e4⟩ := e2
  rw [hv] at eb2
  obtain ⟨gs, rfl, eb3⟩ := eb2
  have hb : (tq_ad ws)[v]? = some b := by rw [List.getElem?_map, eb1]; rfl
  refine va_astq (D := D) (r := (RX8, TX8, 11)) X.1 X.2.1 X.2.2.2.2.2.2.2.1 Y.1 Y.2.1 Y.2.2.1 q 3 v 8 e1 rfl eb1 rfl hi hd (fun H1 locs1 P1 D1 S1 => k X (tq_dyu Y1 e1 ⟨_, rfl, _, rfl, fun j => ?_⟩ P1 D1 S1) hc hs)
  by_cases hj : j = i.toNatClampNeg
  · subst hj
    simp only [va_up, if_true]
    exact ⟨fun z => by simp at z, fun i2 z => ⟨b, by rw [← Option.some.inj z]; exact hb, rfl⟩⟩
  · simp only [va_up, if_neg hj]
    exact e4 j
end TQ3
