/-! ===== the words of the printed functions: what an instruction looks at, tested; loops; ends ===== -/
def tq_gr (h : tq_H) (q ci k : Nat) : Option Nat := match h.2 q with
  | .inl (c, fs) => if c = ci then (match fs[k]? with
    | some (.ref t) => some t
    | _ => none) else none
  | _ => none
def tq_gq (h : tq_H) (q ci k : Nat) : Option (Option Nat) := match h.2 q with
  | .inl (c, fs) => if c = ci then (match fs[k]? with
    | some (.ref t) => some (some t)
    | some .null => some none
    | _ => none) else none
  | _ => none
def tq_gi (h : tq_H) (q ci k : Nat) : Option Int32 := match h.2 q with
  | .inl (c, fs) => if c = ci then (match fs[k]? with
    | some (.int t) => some t
    | _ => none) else none
  | _ => none
def tq_gl (h : tq_H) (q ci k : Nat) : Option Int64 := match h.2 q with
  | .inl (c, fs) => if c = ci then (match fs[k]? with
    | some (.long t) => some t
    | _ => none) else none
  | _ => none
def tq_pf (h : tq_H) (q ci k : Nat) (v : Value) : Option tq_H := match h.2 q with
  | .inl (c, fs) => if c = ci ∧ k < fs.length then some (tq_up h q (.inl (ci, fs.set k v))) else none
  | _ => none
/-- an object's class -/
def tq_is (h : tq_H) (q ci : Nat) : Option Unit := match h.2 q with
  | .inl (c, _) => if c = ci then some () else none
  | _ => none
def tq_an (h : tq_H) (q : Nat) : Option Int32 := match h.2 q with
  | .inr (t, (n, _)) => if t < 4 then some (Int32.ofNat n) else none
  | _ => none
def tq_ai (h : tq_H) (q : Nat) (i : Int32) : Option Int32 := match h.2 q with
  | .inr (0, (n, .inl f)) => if i < 0 ∨ n ≤ i.toNatClampNeg then none else some (f i.toNatClampNeg)
  | _ => none
def tq_az (h : tq_H) (q : Nat) (i : Int32) : Option Int32 := match h.2 q with
  | .inr (1, (n, .inl f)) => if i < 0 ∨ n ≤ i.toNatClampNeg then none else some (f i.toNatClampNeg)
  | _ => none
def tq_aj (h : tq_H) (q : Nat) (i : Int32) : Option Int64 := match h.2 q with
  | .inr (2, (n, .inr (.inl f))) => if i < 0 ∨ n ≤ i.toNatClampNeg then none else some (f i.toNatClampNeg)
  | _ => none
def tq_aq (h : tq_H) (q : Nat) (i : Int32) : Option (Option Nat) := match h.2 q with
  | .inr (3, (n, .inr (.inr (.inr (.inr f))))) => if i < 0 ∨ n ≤ i.toNatClampNeg then none else some (f i.toNatClampNeg)
  | _ => none
def tq_si (h : tq_H) (q : Nat) (i x : Int32) : Option tq_H := match h.2 q with
  | .inr (0, (n, .inl f)) => if i < 0 ∨ n ≤ i.toNatClampNeg then none else some (tq_up h q (.inr (0, (n, .inl (upd f i.toNatClampNeg x)))))
  | _ => none
def tq_sz (h : tq_H) (q : Nat) (i x : Int32) : Option tq_H := match h.2 q with
  | .inr (1, (n, .inl f)) => if i < 0 ∨ n ≤ i.toNatClampNeg then none else if x = 0 ∨ x = 1 then some (tq_up h q (.inr (1, (n, .inl (upd f i.toNatClampNeg x))))) else none
  | _ => none
def tq_sl (h : tq_H) (q : Nat) (i : Int32) (x : Int64) : Option tq_H := match h.2 q with
  | .inr (2, (n, .inr (.inl f))) => if i < 0 ∨ n ≤ i.toNatClampNeg then none else some (tq_up h q (.inr (2, (n, .inr (.inl (vp_updL f i.toNatClampNeg x))))))
  | _ => none
def tq_sq (h : tq_H) (q : Nat) (i : Int32) (v : Nat) : Option tq_H := match h.2 q, h.2 v with
  | .inr (3, (n, .inr (.inr (.inr (.inr f))))), .inl (8, _) => if i < 0 ∨ n ≤ i.toNatClampNeg then none else some (tq_up h q (.inr (3, (n, .inr (.inr (.inr (.inr (va_up f i.toNatClampNeg (some v)))))))))
  | _, _ => none
def tq_cp (h : tq_H) (q0 : Nat) (sp : Int32) (q1 : Nat) (dp n : Int32) : Option tq_H := match h.2 q0, h.2 q1 with
  | .inr (0, (n0, .inl f)), .inr (0, (n1, .inl g)) => if sp < 0 ∨ dp < 0 ∨ n < 0 ∨ n0 < sp.toNatClampNeg + n.toNatClampNeg ∨ n1 < dp.toNatClampNeg + n.toNatClampNeg then none else some (tq_up h q1 (.inr (0, (n1, .inl (va_cpy f g sp.toNatClampNeg dp.toNatClampNeg n.toNatClampNeg)))))
  | _, _ => none
/-- 0 or 1 -/
def tq_bz (x : Int32) : Option Int32 := if x = 0 ∨ x = 1 then some x else none
def tq_nz (x : Int32) : Option Unit := if x = 0 then none else some ()
/-- a loop: its body goes on or ends -/
def tq_loop {σ ε : Type} (B : σ → Option (σ ⊕ ε)) : Nat → σ → Option ε
  | 0, _ => none
  | n + 1, s => match B s with
    | none => none
    | some (.inl s') => tq_loop B n s'
    | some (.inr e) => some e
/-- so many rounds no loop needs -/
def tq_N : Nat := 200000
theorem tq_loop_s {σ ε : Type} {B : σ → Option (σ ⊕ ε)} {n : Nat} {s : σ} {e : ε} (h : tq_loop B (n + 1) s = some e) : ∃ o, B s = some o ∧ ((∃ s', o = .inl s' ∧ tq_loop B n s' = some e) ∨ o = .inr e) := by
  unfold tq_loop at h
  cases hB : B s with
  | none => rw [hB] at h; cases h
  | some o =>
    rw [hB] at h
    cases o with
    | inl s' => exact ⟨_, rfl, Or.inl ⟨s', rfl, h⟩⟩
    | inr e' => cases h; exact ⟨_, rfl, Or.inr rfl⟩
theorem tq_be {α β : Type} {a : Option α} {f : α → Option β} {r : β} (h : a.bind f = some r) : ∃ x, a = some x ∧ f x = some r := by
  cases a with
  | none => cases h
  | some x => exact ⟨x, rfl, h⟩
/-- a call that may throw, and what goes on behind it -/
def tq_tb {α β : Type} (a : Option ((String ⊕ α) × tq_H)) (f : α → tq_H → Option ((String ⊕ β) × tq_H)) : Option ((String ⊕ β) × tq_H) := match a with
  | none => none
  | some (.inl E, h) => some (.inl E, h)
  | some (.inr v, h) => f v h
theorem tq_te {α β : Type} {a : Option ((String ⊕ α) × tq_H)} {f : α → tq_H → Option ((String ⊕ β) × tq_H)} {r : (String ⊕ β) × tq_H} (h : tq_tb a f = some r) : (∃ E h1, a = some (.inl E, h1) ∧ r = (.inl E, h1)) ∨ ∃ v h1, a = some (.inr v, h1) ∧ f v h1 = some r := by
  unfold tq_tb at h
  split at h
  · cases h
  · exact Or.inl ⟨_, _, rfl, (Option.some.inj h).symm⟩
  · exact Or.inr ⟨_, _, rfl, h⟩
section TQ8
variable {l : Launch} {M : tq_M} {d bc bs : Nat} {Q : tq_R → tq_H → Prop} {pc : Nat} {L : List (Nat × Value)} {S : List Value} {h : tq_H}
theorem tq_gr_s {q ci k t : Nat} (e : tq_gr h q ci k = some t) : ∃ fs, h.2 q = .inl (ci, fs) ∧ fs[k]? = some (.ref t) := by
  unfold tq_gr at e
  split at e
  · rename_i c fs hq
    split at e
    · rename_i hc
      subst hc
      split at e
      · rename_i t' ht
        cases e
        exact ⟨fs, hq, ht⟩
      · cases e
    · cases e
  · cases e
theorem tq_gi_s {q ci k : Nat} {t : Int32} (e : tq_gi h q ci k = some t) : ∃ fs, h.2 q = .inl (ci, fs) ∧ fs[k]? = some (.int t) := by
  unfold tq_gi at e
  split at e
  · rename_i c fs hq
    split at e
    · rename_i hc
      subst hc
      split at e
      · rename_i t' ht
        cases e
        exact ⟨fs, hq, ht⟩
      · cases e
    · cases e
  · cases e
theorem tq_gl_s {q ci k : Nat} {t : Int64} (e : tq_gl h q ci k = some t) : ∃ fs, h.2 q = .inl (ci, fs) ∧ fs[k]? = some (.long t) := by
  unfold tq_gl at e
  split at e
  · rename_i c fs hq
    split at e
    · rename_i hc
      subst hc
      split at e
      · rename_i t' ht
        cases e
        exact ⟨fs, hq, ht⟩
      · cases e
    · cases e
  · cases e
theorem tq_gq_s {q ci k : Nat} {t : Option Nat} (e : tq_gq h q ci k = some t) : ∃ fs, h.2 q = .inl (ci, fs) ∧ fs[k]? = some (tq_rf t) := by
  unfold tq_gq at e
  split at e
  · rename_i c fs hq
    split at e
    · rename_i hc
      subst hc
      split at e
      · rename_i t' ht
        cases e
        exact ⟨fs, hq, ht⟩
      · rename_i ht
        cases e
        exact ⟨fs, hq, ht⟩
      · cases e
    · cases e
  · cases e
theorem tq_is_s {q ci : Nat} (e : tq_is h q ci = some ()) : ∃ fs, h.2 q = .inl (ci, fs) := by
  unfold tq_is at e
  split at e
  · rename_i c fs hq
    split at e
    · rename_i hc
      subst hc
      exact ⟨fs, hq⟩
    · cases e
  · cases e
/-- a field that is read: a reference, an int, a long, a reference or null -/
theorem tq_getR {ci : Nat} {C : String} {T : u_T} {N : Nat} {ty : Nat → FieldType} (hC : tq_cok ci C T N ty) {k0 : Nat} (hk : k0 < N) {idx : Nat} (hd : decode M.2.1 pc = .ok (.getfield idx, 3)) (hw : Cond.fieldLink M.1 idx C (T k0).2.1 (T k0).2.2.1 ∈ tq_G) (hown : (T k0).1 = C) {q t : Nat} (e : tq_gr h q ci k0 = some t) (k : tq_W l M d bc bs Q (pc + 3) L (.ref t :: S) h) : tq_W l M d bc bs Q pc L (.ref q :: S) h := by
  obtain ⟨fs, h1, h2⟩ := tq_gr_s e
  exact tq_getf hC k0 hk hd hw hown h1 h2 k
theorem tq_getI {ci : Nat} {C : String} {T : u_T} {N : Nat} {ty : Nat → FieldType} (hC : tq_cok ci C T N ty) {k0 : Nat} (hk : k0 < N) {idx : Nat} (hd : decode M.2.1 pc = .ok (.getfield idx, 3)) (hw : Cond.fieldLink M.1 idx C (T k0).2.1 (T k0).2.2.1 ∈ tq_G) (hown : (T k0).1 = C) {q : Nat} {t : Int32} (e : tq_gi h q ci k0 = some t) (k : tq_W l M d bc bs Q (pc + 3) L (.int t :: S) h) : tq_W l M d bc bs Q pc L (.ref q :: S) h := by
  obtain ⟨fs, h1, h2⟩ := tq_gi_s e
  exact tq_getf hC k0 hk hd hw hown h1 h2 k
theorem tq_getL {ci : Nat} {C : String} {T : u_T} {N : Nat} {ty : Nat → FieldType} (hC : tq_cok ci C T N ty) {k0 : Nat} (hk : k0 < N) {idx : Nat} (hd : decode M.2.1 pc = .ok (.getfield idx, 3)) (hw : Cond.fieldLink M.1 idx C (T k0).2.1 (T k0).2.2.1 ∈ tq_G) (hown : (T k0).1 = C) {q : Nat} {t : Int64} (e : tq_gl h q ci k0 = some t) (k : tq_W l M d bc bs Q (pc + 3) L (.long t :: S) h) : tq_W l M d bc bs Q pc L (.ref q :: S) h := by
  obtain ⟨fs, h1, h2⟩ := tq_gl_s e
  exact tq_getf hC k0 hk hd hw hown h1 h2 k
theorem tq_getQ {ci : Nat} {C : String} {T : u_T} {N : Nat} {ty : Nat → FieldType} (hC : tq_cok ci C T N ty) {k0 : Nat} (hk : k0 < N) {idx : Nat} (hd : decode M.2.1 pc = .ok (.getfield idx, 3)) (hw : Cond.fieldLink M.1 idx C (T k0).2.1 (T k0).2.2.1 ∈ tq_G) (hown : (T k0).1 = C) {q : Nat} {t : Option Nat} (e : tq_gq h q ci k0 = some t) (k : tq_W l M d bc bs Q (pc + 3) L (tq_rf t :: S) h) : tq_W l M d bc bs Q pc L (.ref q :: S) h := by
  obtain ⟨fs, h1, h2⟩ := tq_gq_s e
  exact tq_getf hC k0 hk hd hw hown h1 h2 k
theorem tq_putv {ci : Nat} {C : String} {T : u_T} {N : Nat} {ty : Nat → FieldType} (hC : tq_cok ci C T N ty) {k0 : Nat} (hk : k0 < N) {idx : Nat} (hd : decode M.2.1 pc = .ok (.putfield idx, 3)) (hw : Cond.fieldLink M.1 idx C (T k0).2.1 (T k0).2.2.1 ∈ tq_G) (hown : (T k0).1 = C) (hfin : (T k0).2.2.2 = false ∨ (M.2.2.2.2.1 = true ∧ C = M.1))
    {q : Nat} {v : Value} {h1 : tq_H} (e : tq_pf h q ci k0 v = some h1) (hn : ∀ (ad : List Nat) (w : Value), tq_vr ad v w → narrow (ty k0) w = w ∧ fits (ty k0) w = true) (k : tq_W l M d bc bs Q (pc + 3) L S h1) : tq_W l M d bc bs Q pc L (v :: .ref q :: S) h := by
  unfold tq_pf at e
  split at e
  · rename_i c fs hq
    split at e
    · rename_i hc
      obtain ⟨rfl, hl⟩ := hc
      cases e
      exact tq_putf hC k0 hk hd hw hown hfin hq hl hn k
    · cases e
  · cases e
theorem tq_bz_s {x y : Int32} (e : tq_bz x = some y) : y = x ∧ (x = 0 ∨ x = 1) := by
  unfold tq_bz at e
  split at e
  · rename_i hx
    cases e
    exact ⟨rfl, hx⟩
  · cases e
theorem tq_nz_s {x : Int32} (e : tq_nz x = some ()) : ¬ x = 0 := by
  unfold tq_nz at e
  split at e
  · cases e
  · rename_i hx
    exact hx
theorem tq_n01 {x : Int32} (hx : x = 0 ∨ x = 1) (ad : List Nat) (w : Value) (h : tq_vr ad (.int x) w) : narrow .boolean w = w ∧ fits .boolean w = true := by
  cases (show w = .int x from h)
  rcases hx with rfl | rfl <;> exact ⟨by decide +kernel, by decide +kernel⟩
theorem tq_alenF (hd : decode M.2.1 pc = .ok (.arraylength, 1)) {q : Nat} {n : Int32} (e : tq_an h q = some n) (k : tq_W l M d bc bs Q (pc + 1) L (.int n :: S) h) : tq_W l M d bc bs Q pc L (.ref q :: S) h := by
  unfold tq_an at e
  split at e
  · rename_i t n x hq
    split at e
    · rename_i ht
      cases e
      exact tq_alen hd hq ht k
    · cases e
  · cases e
theorem tq_ialdF (hd : decode M.2.1 pc = .ok (.iaload, 1)) {q : Nat} {i x : Int32} (e : tq_ai h q i = some x) (k : tq_W l M d bc bs Q (pc + 1) L (.int x :: S) h) : tq_W l M d bc bs Q pc L (.int i :: .ref q :: S) h := by
  unfold tq_ai at e
  split at e
  · rename_i n f hq
    split at e
    · cases e
    · rename_i hi
      cases e
      exact tq_iald hd hq hi k
  · cases e
theorem tq_laldF (hd : decode M.2.1 pc = .ok (.laload, 1)) {q : Nat} {i : Int32} {x : Int64} (e : tq_aj h q i = some x) (k : tq_W l M d bc bs Q (pc + 1) L (.long x :: S) h) : tq_W l M d bc bs Q pc L (.int i :: .ref q :: S) h := by
  unfold tq_aj at e
  split at e
  · rename_i n f hq
    split at e
    · cases e
    · rename_i hi
      cases e
      exact tq_lald hd hq hi k
  · cases e
theorem tq_aaldF (hd : decode M.2.1 pc = .ok (.aaload, 1)) {q : Nat} {i : Int32} {x : Option Nat} (e : tq_aq h q i = some x) (k : tq_W l M d bc bs Q (pc + 1) L (tq_rf x :: S) h) : tq_W l M d bc bs Q pc L (.int i :: .ref q :: S) h := by
  unfold tq_aq at e
  split at e
  · rename_i n f hq
    split at e
    · cases e
    · rename_i hi
      cases e
      exact tq_aald hd hq hi k
  · cases e
theorem tq_iastF (hd : decode M.2.1 pc = .ok (.iastore, 1)) {q : Nat} {i x : Int32} {h1 : tq_H} (e : tq_si h q i x = some h1) (k : tq_W l M d bc bs Q (pc + 1) L S h1) : tq_W l M d bc bs Q pc L (.int x :: .int i :: .ref q :: S) h := by
  unfold tq_si at e
  split at e
  · rename_i n f hq
    split at e
    · cases e
    · rename_i hi
      cases e
      exact tq_iast hd hq hi k
  · cases e
theorem tq_lastF (hd : decode M.2.1 pc = .ok (.lastore, 1)) {q : Nat} {i : Int32} {x : Int64} {h1 : tq_H} (e : tq_sl h q i x = some h1) (k : tq_W l M d bc bs Q (pc + 1) L S h1) : tq_W l M d bc bs Q pc L (.long x :: .int i :: .ref q :: S) h := by
  unfold tq_sl at e
  split at e
  · rename_i n f hq
    split at e
    · cases e
    · rename_i hi
      cases e
      exact tq_last hd hq hi k
  · cases e
theorem tq_aastF (hd : decode M.2.1 pc = .ok (.aastore, 1)) {q : Nat} {i : Int32} {v : Nat} {h1 : tq_H} (e : tq_sq h q i v = some h1) (k : tq_W l M d bc bs Q (pc + 1) L S h1) : tq_W l M d bc bs Q pc L (.ref v :: .int i :: .ref q :: S) h := by
  unfold tq_sq at e
  split at e
  · rename_i n f fs hq hv
    split at e
    · cases e
    · rename_i hi
      cases e
      exact tq_aast hd hq hv hi k
  · cases e
theorem tq_copyF (idx : Nat) (hd : decode M.2.1 pc = .ok (.invokestatic idx, 3)) (hl : Cond.methodLink M.1 idx arraycopyName ∈ tq_G) (hnat : Cond.native arraycopyName ∈ tq_G) (hstat : Cond.static arraycopyName ∈ tq_G) (hini : Cond.initialized "java/lang/System" ∈ tq_G) {q0 q1 : Nat} {sp dp n : Int32} {h1 : tq_H} (e : tq_cp h q0 sp q1 dp n = some h1) (hdp : 1 ≤ d)
    (k : tq_W l M d bc bs Q (pc + 3) L [] h1) : tq_W l M d bc bs Q pc L [.int n, .int dp, .ref q1, .int sp, .ref q0] h := by
  unfold tq_cp at e
  split at e
  · rename_i n0 f n1 g hq0 hq1
    split at e
    · cases e
    · rename_i hi
      cases e
      simp only [not_or] at hi
      exact tq_copyi idx hd hl hnat hstat hini hq0 hq1 hi.1 hi.2.1 hi.2.2.1 (Nat.not_lt.mp hi.2.2.2.1) (Nat.not_lt.mp hi.2.2.2.2) hdp k
  · cases e
/-- fewer locals, in any order -/
theorem tq_al_pick {ad : List Nat} {L L' : List (Nat × Value)} (hal : tq_al (tq_lr ad) L L') : ∀ (ks : List Nat), tq_al (tq_lr ad) (lv_pick L ks) (lv_pick L' ks)
  | [] => trivial
  | k :: ks => by
    unfold lv_pick
    rw [List.filterMap_cons, List.filterMap_cons]
    cases hk : L[k]? with
    | none =>
      have h2 : L'[k]? = none := by
        rw [List.getElem?_eq_none_iff] at hk ⊢
        rw [← hal.len]; exact hk
      rw [h2]
      exact tq_al_pick hal ks
    | some a =>
      obtain ⟨b, hb, hr⟩ := hal.at hk
      rw [hb]
      exact ⟨hr, tq_al_pick hal ks⟩
theorem tq_pick {L2 : List (Nat × Value)} (ks : List Nat) (hL : lv_pick L ks = L2) (k : tq_W l M d bc bs Q pc L2 S h) : tq_W l M d bc bs Q pc L S h := by
  intro p e R s m args below meth c D cA A ad0 mc ms X H locs cells slots ws ls S' Y hc hs
  subst hL
  obtain ⟨L', h1, h2⟩ := Y.2.2.2.2.2.1
  exact k X (tq_dyl Y ⟨_, lv_sub h1 ks rfl, tq_al_pick h2 ks⟩) hc hs
/-- a table, at a known place, or out of it -/
theorem tq_tabC {dflt lo hi : Int} {offs : Array Int} {len : Nat} (c : Int32) (hd : decode M.2.1 pc = .ok (.tableswitch dflt lo hi offs, len)) {off : Int} (h1 : ¬ c.toInt < lo) (h2 : ¬ hi < c.toInt) (ho : offs[(c.toInt - lo).toNat]? = some off) {tgt : Nat} (ht : (pc : Int) + off = (tgt : Int)) (k : tq_W l M d bc bs Q tgt L S h) : tq_W l M d bc bs Q pc L (.int c :: S) h := by
  intro p e R s m args below meth c0 D cA A ad0 mc ms X H locs cells slots ws ls S' Y hc hs
  obtain ⟨_, rfl, Y1⟩ := tq_popI Y
  exact lv_tableIn X.1 X.2.1 hd h1 h2 ho ht (k X Y1 hc hs)
theorem tq_tabD {dflt lo hi : Int} {offs : Array Int} {len : Nat} {c : Int32} (hd : decode M.2.1 pc = .ok (.tableswitch dflt lo hi offs, len)) (h1 : c.toInt < lo ∨ hi < c.toInt) {tgt : Nat} (ht : (pc : Int) + dflt = (tgt : Int)) (k : tq_W l M d bc bs Q tgt L S h) : tq_W l M d bc bs Q pc L (.int c :: S) h := by
  intro p e R s m args below meth c0 D cA A ad0 mc ms X H locs cells slots ws ls S' Y hc hs
  obtain ⟨_, rfl, Y1⟩ := tq_popI Y
  exact lv_tableOut X.1 X.2.1 hd h1 ht (k X Y1 hc hs)
theorem tq_far {c : Int32} {n : Nat} (hn : n < 2147483648) (h : ∀ j : Nat, j < n → ¬ c = Int32.ofNat j) : c.toInt < 0 ∨ (n : Int) - 1 < c.toInt := by
  by_cases h0 : c.toInt < 0
  · exact Or.inl h0
  · by_cases h1 : (n : Int) - 1 < c.toInt
    · exact Or.inr h1
    · exfalso
      refine h c.toInt.toNat (by omega) ?_
      rw [← Int32.toInt_inj]
      have : (Int32.ofNat c.toInt.toNat).toInt = (c.toInt.toNat : Int) := nI_toInt (n := c.toInt.toNat) (by omega)
      rw [this]
      omega
end TQ8
