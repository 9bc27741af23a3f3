/-! ===== names given on the way; ends ===== -/
def tq_let {α β : Type} (a : α) (f : α → β) : β := f a
theorem tq_le {α β : Type} {a : α} {f : α → Option β} {r : β} (h : tq_let a f = some r) : ∃ x, x = a ∧ f x = some r := ⟨a, rfl, h⟩
theorem tq_ifp {α : Type} {c : Prop} [Decidable c] {a b r : α} (h : (if c then a else b) = r) (hc : c) : a = r := by rw [if_pos hc] at h; exact h
theorem tq_ifn {α : Type} {c : Prop} [Decidable c] {a b r : α} (h : (if c then a else b) = r) (hc : ¬ c) : b = r := by rw [if_neg hc] at h; exact h
theorem tq_lc {σ ε : Type} {B : σ → Option (σ ⊕ ε)} {n : Nat} {s : σ} {o : ε} (h : (∃ s', (Sum.inl s : σ ⊕ ε) = .inl s' ∧ tq_loop B n s' = some o) ∨ (Sum.inl s : σ ⊕ ε) = .inr o) : tq_loop B n s = some o := by
  rcases h with ⟨s', q, h⟩ | q
  · cases q; exact h
  · cases q
theorem tq_lx {σ ε : Type} {B : σ → Option (σ ⊕ ε)} {n : Nat} {e o : ε} (h : (∃ s', (Sum.inr e : σ ⊕ ε) = .inl s' ∧ tq_loop B n s' = some o) ∨ (Sum.inr e : σ ⊕ ε) = .inr o) : o = e := by
  rcases h with ⟨s', q, -⟩ | q
  · cases q
  · cases q; rfl
def tq_enI (x : String ⊕ Int32) : tq_R := match x with
  | .inl E => .inr E
  | .inr v => .inl (some (.int v))
def tq_enL (x : String ⊕ Int64) : tq_R := match x with
  | .inl E => .inr E
  | .inr v => .inl (some (.long v))
def tq_enR (x : String ⊕ Nat) : tq_R := match x with
  | .inl E => .inr E
  | .inr v => .inl (some (.ref v))
def tq_enV (x : String ⊕ Unit) : tq_R := match x with
  | .inl E => .inr E
  | .inr _ => .inl none
theorem tk_c1 : tq_cok 1 RX1 TX1 7 tyX1 := ⟨rfl, tq_in1, tyX1_ok, nmX1⟩
theorem tk_c2 : tq_cok 2 RX2 TX2 8 tyX2 := ⟨rfl, tq_in2, tyX2_ok, nmX2⟩
theorem tk_c3 : tq_cok 3 RX3 TX3 13 tyX3 := ⟨rfl, tq_in3, tyX3_ok, nmX3⟩
theorem tk_c4 : tq_cok 4 RX4 TX4 10 tyX4 := ⟨rfl, tq_in4, tyX4_ok, nmX4⟩
theorem tk_c5 : tq_cok 5 RX5 TX5 1 tyX5 := ⟨rfl, tq_in5, tyX5_ok, nmX5⟩
theorem tk_c6 : tq_cok 6 RX6 TX6 11 tyX6 := ⟨rfl, tq_in6, tyX6_ok, nmX6⟩
theorem tk_c7 : tq_cok 7 RX7 TX7 1 tyX7 := ⟨rfl, tq_in7, tyX7_ok, nmX7⟩
theorem tk_c8 : tq_cok 8 RX8 TX8 11 tyX8 := ⟨rfl, tq_in8, tyX8_ok, nmX8⟩
theorem tk_c9 : tq_cok 9 RX9 TX9 12 tyX9 := ⟨rfl, tq_in9, tyX9_ok, nmX9⟩
theorem tk_c10 : tq_cok 10 RX10 TX10 19 tyX10 := ⟨rfl, tq_in10, tyX10_ok, nmX10⟩
def RJ13 : String := "java/lang/Long"
def RJ9 : String := "java/lang/Math"
def RJ7 : String := "java/util/Arrays"
section TQ9
variable {l : Launch} {M : tq_M} {d bc bs : Nat} {Q : tq_R → tq_H → Prop} {pc : Nat} {L : List (Nat × Value)} {S : List Value} {h : tq_H}
theorem tq_zretB (hd : decode M.2.1 pc = .ok (.ireturn, 1)) (hr : M.2.2.2.1 = some .boolean) {v z : Int32} (e : tq_bz v = some z) (q : Q (.inl (some (.int z))) h) : tq_W l M d bc bs Q pc L [.int v] h := by
  obtain ⟨e1, e2⟩ := tq_bz_s e
  subst e1
  exact tq_zret hd hr e2 q
theorem tq_putB {ci : Nat} {C : String} {T : u_T} {N : Nat} {ty : Nat → FieldType} (hC : tq_cok ci C T N ty) {k0 : Nat} (hk : k0 < N) (hty : ty k0 = .boolean) {idx : Nat} (hd : decode M.2.1 pc = .ok (.putfield idx, 3)) (hw : Cond.fieldLink M.1 idx C (T k0).2.1 (T k0).2.2.1 ∈ tq_G) (hown : (T k0).1 = C) (hfin : (T k0).2.2.2 = false ∨ (M.2.2.2.2.1 = true ∧ C = M.1))
    {q : Nat} {v z : Int32} {h1 : tq_H} (ez : tq_bz v = some z) (e : tq_pf h q ci k0 (.int z) = some h1) (k : tq_W l M d bc bs Q (pc + 3) L S h1) : tq_W l M d bc bs Q pc L (.int v :: .ref q :: S) h := by
  obtain ⟨e1, e2⟩ := tq_bz_s ez
  subst e1
  exact tq_putv hC hk hd hw hown hfin e (fun ad w hw2 => by rw [hty]; exact tq_n01 e2 ad w hw2) k
theorem tq_mmax (idx : Nat) (hd : decode M.2.1 pc = .ok (.invokestatic idx, 3)) (hl : Cond.methodLink M.1 idx Lib.Math.max.name ∈ tq_G) (hst : Cond.static Lib.Math.max.name ∈ tq_G) (hini : Cond.initialized "java/lang/Math" ∈ tq_G) (hcd : Cond.code Lib.Math.max.name Lib.Math.max.code 2 (some .int) ∈ tq_G) (hdp : 1 ≤ d) {x y : Int32} (hS : (S.map fun v => v.category).sum ≤ 8) (k : tq_W l M d bc bs Q (pc + 3) L (.int (if x < y then y else x) :: S) h) : tq_W l M d bc bs Q pc L (.int y :: .int x :: S) h := by
  intro p e R s m args below meth c D cA A ad0 mc ms X H locs cells slots ws ls S' Y hc hs
  obtain ⟨_, rfl, Y1⟩ := tq_popI Y
  obtain ⟨S2, rfl, Y2⟩ := tq_popI Y1
  have hts := X.2.2.2.2.2.2.1
  have f1 := X.2.2.2.2.2.2.2.2.2.2.1
  have f2 := X.2.2.2.2.2.2.2.2.2.2.2.1
  have f3 := X.2.2.2.2.2.2.2.2.1
  have f4 := X.2.2.2.2.2.2.2.2.2.1
  exact va_mmax X.1 X.2.1 (X.2.2.1.trans (tq_hsz Y).symm) X.2.2.2.2.2.1 (hts _ hl) (hts _ hst) (hts _ hini) (hts _ hcd) (by omega) (by rw [tq_cats Y2.2.2.2.2.2.2]; omega) (by omega) (by omega) hd (k X (tq_psh Y2 rfl) hc hs)
theorem tq_mmin (idx : Nat) (hd : decode M.2.1 pc = .ok (.invokestatic idx, 3)) (hl : Cond.methodLink M.1 idx Lib.Math.min.name ∈ tq_G) (hst : Cond.static Lib.Math.min.name ∈ tq_G) (hini : Cond.initialized "java/lang/Math" ∈ tq_G) (hcd : Cond.code Lib.Math.min.name Lib.Math.min.code 2 (some .int) ∈ tq_G) (hdp : 1 ≤ d) {x y : Int32} (hS : (S.map fun v => v.category).sum ≤ 8) (k : tq_W l M d bc bs Q (pc + 3) L (.int (if y < x then y else x) :: S) h) : tq_W l M d bc bs Q pc L (.int y :: .int x :: S) h := by
  intro p e R s m args below meth c D cA A ad0 mc ms X H locs cells slots ws ls S' Y hc hs
  obtain ⟨_, rfl, Y1⟩ := tq_popI Y
  obtain ⟨S2, rfl, Y2⟩ := tq_popI Y1
  have hts := X.2.2.2.2.2.2.1
  have f1 := X.2.2.2.2.2.2.2.2.2.2.1
  have f2 := X.2.2.2.2.2.2.2.2.2.2.2.1
  have f3 := X.2.2.2.2.2.2.2.2.1
  have f4 := X.2.2.2.2.2.2.2.2.2.1
  exact va_mmin X.1 X.2.1 (X.2.2.1.trans (tq_hsz Y).symm) X.2.2.2.2.2.1 (hts _ hl) (hts _ hst) (hts _ hini) (hts _ hcd) (by omega) (by rw [tq_cats Y2.2.2.2.2.2.2]; omega) (by omega) (by omega) hd (k X (tq_psh Y2 rfl) hc hs)
end TQ9
theorem tk_max_s : Cond.static Lib.Math.max.name ∈ tq_G := tq_g (i := 440) (by decide +kernel) rfl
theorem tk_max_c : Cond.code Lib.Math.max.name Lib.Math.max.code 2 (some .int) ∈ tq_G := tq_g (i := 441) (by decide +kernel) rfl
theorem tk_min_s : Cond.static Lib.Math.min.name ∈ tq_G := tq_g (i := 763) (by decide +kernel) rfl
theorem tk_min_c : Cond.code Lib.Math.min.name Lib.Math.min.code 2 (some .int) ∈ tq_G := tq_g (i := 764) (by decide +kernel) rfl
theorem tk_math : Cond.initialized "java/lang/Math" ∈ tq_G := tq_g (i := 64) (by decide +kernel) rfl
section TQ10
variable {l : Launch} {M : tq_M} {d bc bs : Nat} {Q : tq_R → tq_H → Prop} {pc : Nat} {L : List (Nat × Value)} {S : List Value} {h : tq_H}
theorem tq_aload_nN {n : Fin 4} (hd : decode M.2.1 pc = .ok (.aload_n n, 1)) (hl : L.lookup (n : Nat) = some .null) (k : tq_W l M d bc bs Q (pc + 1) L (.null :: S) h) : tq_W l M d bc bs Q pc L S h := by
  intro p e R s m args below meth c D cA A ad0 mc ms X H locs cells slots ws ls S' Y hc hs
  obtain ⟨w, h1, h2⟩ := tq_loc Y hl
  cases (show w = .null from h2)
  exact lv_aload_nN X.1 X.2.1 hd rfl h1 (k X (tq_psh Y rfl) hc hs)
theorem tq_astore_nN {n : Fin 4} {i : Nat} (hi : (n : Nat) = i) (hd : decode M.2.1 pc = .ok (.astore_n n, 1)) {L2 : List (Nat × Value)} (hn : i < M.2.2.1) (hL : tq_st1 L i .null = L2) (k : tq_W l M d bc bs Q (pc + 1) L2 S h) : tq_W l M d bc bs Q pc L (.null :: S) h := by
  intro p e R s m args below meth c D cA A ad0 mc ms X H locs cells slots ws ls S' Y hc hs
  obtain ⟨_, rfl, Y1⟩ := tq_popN Y
  subst hL
  obtain ⟨L', h1, h2⟩ := Y1.2.2.2.2.2.1
  exact lv_astore_nN X.1 X.2.1 hd hi h1 hn rfl (fun ls2 q => k X (tq_dyl Y1 ⟨_, q, tq_al_st1 h2 i rfl⟩) hc hs)
/-- a length for a new array -/
def tq_len (n : Int32) : Option Nat := if n < 0 then none else if n.toNatClampNeg ≤ 10000 then some n.toNatClampNeg else none
theorem tq_len_s {n : Int32} {N : Nat} (e : tq_len n = some N) : n.toNatClampNeg = N ∧ ¬ n < 0 ∧ N ≤ 10000 := by
  unfold tq_len at e
  split at e
  · cases e
  · rename_i h1
    split at e
    · rename_i h2
      cases e
      exact ⟨rfl, h1, h2⟩
    · cases e
end TQ10
theorem tq_tabX {l : Launch} {M : tq_M} {d bc bs : Nat} {Q : tq_R → tq_H → Prop} {pc : Nat} {L : List (Nat × Value)} {S : List Value} {h : tq_H} {dflt lo hi : Int} {offs : Array Int} {len : Nat} (c : Int32) {x : Int32} (hx : x = c) (hd : decode M.2.1 pc = .ok (.tableswitch dflt lo hi offs, len)) {off : Int} (h1 : ¬ c.toInt < lo) (h2 : ¬ hi < c.toInt) (ho : offs[(c.toInt - lo).toNat]? = some off) {tgt : Nat} (ht : (pc : Int) + off = (tgt : Int)) (k : tq_W l M d bc bs Q tgt L S h) : tq_W l M d bc bs Q pc L (.int x :: S) h := by
  rw [hx]
  exact tq_tabC c hd h1 h2 ho ht k
