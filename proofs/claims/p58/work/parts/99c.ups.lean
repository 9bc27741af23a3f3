/-! ===== lists of updates ===== -/
/-- how many; what, target, parent, place, kind, name, content -/
def Ups : Type := Nat × (Nat → Nat) × (Nat → Nat) × (Nat → Nat) × (Nat → Nat) × (Nat → Nat) × (Nat → Int32) × (Nat → Int32)
def Ups.n (U : Ups) : Nat := U.1
def Ups.uw (U : Ups) : Nat → Nat := U.2.1
def Ups.ut (U : Ups) : Nat → Nat := U.2.2.1
def Ups.up (U : Ups) : Nat → Nat := U.2.2.2.1
def Ups.ul (U : Ups) : Nat → Nat := U.2.2.2.2.1
def Ups.uk (U : Ups) : Nat → Nat := U.2.2.2.2.2.1
def Ups.un (U : Ups) : Nat → Int32 := U.2.2.2.2.2.2.1
def Ups.uc (U : Ups) : Nat → Int32 := U.2.2.2.2.2.2.2
def Ups.ins (U : Ups) (k : Nat) : Nat := fb_ct (fun j => decide (U.uw j = 0)) k
def Ups.sj (U : Ups) (m k : Nat) : Nat := if U.uw k = 0 then m + U.ins k else U.ut k
def Ups.tk (U : Ups) (k v : Nat) : Bool := anyB (fun j => decide ((U.uw j = 1 ∨ U.uw j = 4) ∧ U.ut j = v)) k
def Ups.ia (U : Ups) (k e x : Nat) : Bool := decide (U.uw k = 0 ∧ U.uk k = 2 ∧ U.up k = e ∧ U.un k = nI x)
def Ups.ik (U : Ups) (k e p : Nat) : Bool := decide ((U.uw k = 4 ∨ (U.uw k = 0 ∧ U.uk k ≠ 2)) ∧ U.up k = e ∧ U.ul k = p)
def Ups.rw (U : Ups) (m : Nat) (R : Rws) : Nat → Rws
  | 0 => R
  | k + 1 => if U.uw k = 0 then (upd (U.rw m R k).1 (m + U.ins k) (nI (U.uk k)), upd (U.rw m R k).2.1 (m + U.ins k) (U.un k), upd (U.rw m R k).2.2.1 (m + U.ins k) (U.uc k), upd (U.rw m R k).2.2.2 (m + U.ins k) (-1))
    else if U.uw k = 2 then ((U.rw m R k).1, upd (U.rw m R k).2.1 (U.ut k) (U.uc k), (U.rw m R k).2.2)
    else if U.uw k = 3 then ((U.rw m R k).1, (U.rw m R k).2.1, upd (U.rw m R k).2.2.1 (U.ut k) (U.uc k), (U.rw m R k).2.2.2)
    else if U.uw k = 5 then ((U.rw m R k).1, (U.rw m R k).2.1, (U.rw m R k).2.2.1, upd (U.rw m R k).2.2.2 (U.ut k) (U.uc k))
    else U.rw m R k
def nmv (x : Int32) : Prop := ∃ k, k < 8 ∧ x = nI k
def vlv (x : Int32) : Prop := ∃ k, k < 1000 ∧ x = nI k
def spv (x : Int32) : Prop := ∃ k, k < 4 ∧ x = nI k
/-- what the calls that collect have looked after -/
def Ups.wf (U : Ups) (m : Nat) (D : Doc) : Prop :=
  (U.n ≤ 20 ∧ m ≤ 60 ∧ ∀ i, i < D.n → D.ord i < m) ∧ (∀ k, k < U.n → U.uw k ≤ 5) ∧
  (∀ k, k < U.n → U.uw k ≠ 0 → ∃ i, i < D.n ∧ U.ut k = D.ord i ∧ (U.uw k = 1 → 0 < i) ∧ (U.uw k = 4 → 0 < i ∧ D.kd i ≠ 2) ∧ (U.uw k = 2 → D.kd i ≠ 1) ∧ (U.uw k = 3 → D.kd i ≠ 0) ∧ (U.uw k = 5 → D.kd i = 0)) ∧
  (∀ k, k < U.n → U.uw k = 0 ∨ U.uw k = 4 → ∃ i, i < D.n ∧ U.up k = D.ord i ∧ D.kd i = 0 ∧ ((U.uw k = 0 ∧ U.uk k = 2) ∨ U.ul k ≤ fb_ct (D.ax 1 i) 64)) ∧
  (∀ k, k < U.n → U.uw k = 0 → (U.uk k = 0 ∧ nmv (U.un k) ∧ U.uc k = -1) ∨ (U.uk k = 1 ∧ U.un k = -1 ∧ vlv (U.uc k)) ∨ (U.uk k = 2 ∧ nmv (U.un k) ∧ vlv (U.uc k))) ∧
  (∀ k, k < U.n → U.uw k = 2 → nmv (U.uc k)) ∧ (∀ k, k < U.n → U.uw k = 3 → vlv (U.uc k)) ∧ (∀ k, k < U.n → U.uw k = 5 → U.uc k = -1 ∨ spv (U.uc k))
def Ups.cl (U : Ups) (j k : Nat) : Prop := U.uw j ≠ 0 ∧ U.uw k ≠ 0 ∧ U.ut j = U.ut k ∧ ((U.uw j = U.uw k ∧ U.uw j ≠ 1) ∨ (U.uw j = 1 ∧ U.uw k = 4) ∨ (U.uw j = 4 ∧ U.uw k = 1))
def Ups.ok (U : Ups) : Prop := ∀ j k, j < k → k < U.n → ¬ U.cl j k
/-- a document's rows by nodes -/
def Doc.rws (D : Doc) : Rws := (fun v => D.kd (D.ps (nI v) D.n - 1), fun v => D.nm (D.ps (nI v) D.n - 1), fun v => D.vl (D.ps (nI v) D.n - 1), fun v => D.dc (D.ps (nI v) D.n - 1))
def Ups.new (U : Ups) (m : Nat) (D : Doc) : Rws := U.rw m D.rws U.n
/-- the member at a place -/
def kS (P : Nat → Bool) (p : Nat) : Nat := (pk P (nI p)).toNatClampNeg
def cutL (f : Nat → List Nat) (n : Nat) : List Nat := (List.range n).flatMap f
def Ups.ao (U : Ups) (m : Nat) (D : Doc) (i x p : Nat) : List Nat := if (U.new m D).2.1 (D.ord (kS (D.ax 11 i) p)) = nI x ∧ U.tk U.n (D.ord (kS (D.ax 11 i) p)) = false then [D.ord (kS (D.ax 11 i) p)] else []
def Ups.an (U : Ups) (m : Nat) (D : Doc) (i x k : Nat) : List Nat := if U.ia k (D.ord i) x then [U.sj m k] else []
def Ups.aL (U : Ups) (m : Nat) (D : Doc) (i x : Nat) : List Nat := cutL (U.ao m D i x) (fb_ct (D.ax 11 i) 64) ++ cutL (U.an m D i x) U.n
def Ups.kn (U : Ups) (m : Nat) (D : Doc) (i p k : Nat) : List Nat := if U.ik k (D.ord i) p then [U.sj m k] else []
def Ups.ko (U : Ups) (D : Doc) (i p : Nat) : List Nat := if p < fb_ct (D.ax 1 i) 64 ∧ U.tk U.n (D.ord (kS (D.ax 1 i) p)) = false then [D.ord (kS (D.ax 1 i) p)] else []
def Ups.kL (U : Ups) (m : Nat) (D : Doc) (i p : Nat) : List Nat := cutL (U.kn m D i p) U.n ++ U.ko D i p
def Ups.fL (U : Ups) (m : Nat) (D : Doc) (i : Nat) : List Nat := cutL (U.aL m D i) 8 ++ cutL (U.kL m D i) (fb_ct (D.ax 1 i) 64 + 1)
/-- the lists of children once all is done -/
def Ups.F (U : Ups) (m : Nat) (D : Doc) (v : Nat) : List Nat := if v < 60 ∧ D.ps (nI v) D.n ≠ 0 ∧ D.kd (D.ps (nI v) D.n - 1) = 0 then U.fL m D (D.ps (nI v) D.n - 1) else []
section UPS
variable {U : Ups} {D : Doc} {m i j k e v w x p : Nat} {f g : Nat → List Nat} {R : Rws}
theorem cutL_0 : cutL f 0 = [] := rfl
theorem cutL_succ (n : Nat) : cutL f (n + 1) = cutL f n ++ f n := by unfold cutL; rw [List.range_succ, List.flatMap_append]; simp
theorem cutL_mem {n : Nat} : w ∈ cutL f n ↔ ∃ k, k < n ∧ w ∈ f k := by unfold cutL; rw [List.mem_flatMap]; simp
theorem cutL_nil {n : Nat} (h : ∀ k, k < n → f k = []) : cutL f n = [] := by
  cases e : cutL f n with
  | nil => rfl
  | cons a l =>
    obtain ⟨k, h1, h2⟩ := cutL_mem.mp (show a ∈ cutL f n by rw [e]; exact List.mem_cons_self)
    rw [h k h1] at h2; cases h2
theorem cutL_nd : ∀ n, (∀ k, k < n → (f k).Nodup) → (∀ j k, j < k → k < n → ∀ w, w ∈ f j → w ∉ f k) → (cutL f n).Nodup := by
  intro n
  induction n with
  | zero => intro _ _; exact List.nodup_nil
  | succ n ih =>
    intro h1 h2
    rw [cutL_succ, List.nodup_append]
    refine ⟨ih (fun k hk => h1 k (by omega)) (fun j k a b => h2 j k a (by omega)), h1 n (by omega), fun a ha b hb e => ?_⟩
    subst e
    obtain ⟨k, k1, k2⟩ := cutL_mem.mp ha
    exact h2 k n k1 (by omega) a k2 hb
theorem kS_at {P : Nat → Bool} (h : p < fb_ct P 64) : kS P p < 64 ∧ P (kS P p) = true ∧ fb_ct P (kS P p) = p ∧ pk P (nI p) = nI (kS P p) := by
  obtain ⟨s, s1, s2, s3⟩ := fb_ct_kth h
  have e := pk_inn s1 s2 s3
  have : kS P p = s := by unfold kS; rw [e, nI_clamp (by omega)]
  rw [this]; exact ⟨s1, s2, s3, e⟩
theorem kS_of {P : Nat → Bool} (h : P j = true) (hj : j < 64) : kS P (fb_ct P j) = j ∧ fb_ct P j < fb_ct P 64 := by
  have e := pk_inn hj h rfl
  refine ⟨by unfold kS; rw [e, nI_clamp (by omega)], ?_⟩
  have := fb_ct_mono P (show j + 1 ≤ 64 by omega)
  rw [fb_ct_succ, if_pos h] at this; omega
theorem kS_out {P : Nat → Bool} (h : fb_ct P 64 ≤ p) (hp : p < 2 ^ 31) : pk P (nI p) = -1 := pk_out (.inr (by rw [nI_clamp hp]; exact h))
theorem Ups.tk_iff {n : Nat} : U.tk n v = true ↔ ∃ j, j < n ∧ (U.uw j = 1 ∨ U.uw j = 4) ∧ U.ut j = v := by
  unfold Ups.tk; rw [anyB_iff]
  constructor
  · rintro ⟨j, a, b⟩; exact ⟨j, a, of_decide_eq_true b⟩
  · rintro ⟨j, a, b⟩; exact ⟨j, a, decide_eq_true b⟩
theorem Ups.ins_lt (h0 : U.uw j = 0) (hjk : j < k) : U.ins j < U.ins k := by
  unfold Ups.ins
  have := fb_ct_mono (fun j => decide (U.uw j = 0)) (show j + 1 ≤ k from hjk)
  rw [fb_ct_succ, if_pos (decide_eq_true h0)] at this; omega
theorem Ups.sj_inj (hu : U.wf m D) (hk : U.ok) (hj : j < U.n) (hk2 : k < U.n) (a : U.uw j = 0 ∨ U.uw j = 4) (b : U.uw k = 0 ∨ U.uw k = 4) (e : U.sj m j = U.sj m k) : j = k := by
  obtain ⟨⟨-, -, u1⟩, -, u2, -⟩ := hu
  unfold Ups.sj at e
  have old : ∀ k, k < U.n → U.uw k = 4 → U.ut k < m := fun k hk h => by
    obtain ⟨i, i1, i2, -⟩ := u2 k hk (by omega)
    rw [i2]; exact u1 i i1
  rcases a with a | a <;> rcases b with b | b
  · rw [if_pos a, if_pos b] at e
    rcases Nat.lt_trichotomy j k with q | q | q
    · have := U.ins_lt a q; omega
    · exact q
    · have := U.ins_lt b q; omega
  · rw [if_pos a, if_neg (by omega)] at e
    have := old k hk2 b; omega
  · rw [if_neg (by omega), if_pos b] at e
    have := old j hj a; omega
  · rw [if_neg (by omega), if_neg (by omega)] at e
    rcases Nat.lt_trichotomy j k with q | q | q
    · exact absurd ⟨by omega, by omega, e, .inl ⟨by omega, by omega⟩⟩ (hk j k q hk2)
    · exact q
    · exact absurd ⟨by omega, by omega, e.symm, .inl ⟨by omega, by omega⟩⟩ (hk k j q hj)
theorem Ups.sj_old (hu : U.wf m D) (hk : k < U.n) (a : U.uw k = 0 ∨ U.uw k = 4) (hj : j < D.n) (ht : U.tk U.n (D.ord j) = false) : U.sj m k ≠ D.ord j := fun e => by
  unfold Ups.sj at e
  rcases a with a | a
  · rw [if_pos a] at e
    have := hu.1.2.2 j hj; omega
  · rw [if_neg (by omega)] at e
    have := U.tk_iff.mpr ⟨k, hk, .inr a, e⟩
    rw [ht] at this; cases this
theorem Ups.aL_mem (hw : D.wf) : w ∈ U.aL m D i x ↔ (∃ j, D.ax 11 i j = true ∧ w = D.ord j ∧ (U.new m D).2.1 w = nI x ∧ U.tk U.n w = false) ∨ ∃ k, k < U.n ∧ U.ia k (D.ord i) x = true ∧ w = U.sj m k := by
  unfold Ups.aL
  rw [List.mem_append, cutL_mem, cutL_mem]
  refine or_congr ⟨?_, ?_⟩ ⟨?_, ?_⟩
  · rintro ⟨p, hp, h⟩
    obtain ⟨k1, k2, k3, k4⟩ := kS_at hp
    unfold Ups.ao at h
    split at h
    · rename_i q
      rw [List.mem_singleton] at h
      subst h
      exact ⟨_, k2, rfl, q⟩
    · cases h
  · rintro ⟨j, j1, rfl, j2⟩
    have hj := D.ax_lt 11 i j j1
    obtain ⟨k1, k2⟩ := kS_of j1 (by have := D.n_le hw; omega)
    refine ⟨_, k2, ?_⟩
    unfold Ups.ao
    rw [k1, if_pos j2]; exact List.mem_singleton.mpr rfl
  · rintro ⟨k, hk, h⟩
    unfold Ups.an at h
    split at h
    · rename_i q; exact ⟨k, hk, q, List.mem_singleton.mp h⟩
    · cases h
  · rintro ⟨k, hk, q, rfl⟩
    refine ⟨k, hk, ?_⟩
    unfold Ups.an
    rw [if_pos q]; exact List.mem_singleton.mpr rfl
theorem Ups.kL_mem (hw : D.wf) : w ∈ U.kL m D i p ↔ (∃ k, k < U.n ∧ U.ik k (D.ord i) p = true ∧ w = U.sj m k) ∨ ∃ j, D.ax 1 i j = true ∧ fb_ct (D.ax 1 i) j = p ∧ w = D.ord j ∧ U.tk U.n w = false := by
  unfold Ups.kL
  rw [List.mem_append, cutL_mem]
  refine or_congr ⟨?_, ?_⟩ ⟨?_, ?_⟩
  · rintro ⟨k, hk, h⟩
    unfold Ups.kn at h
    split at h
    · rename_i q; exact ⟨k, hk, q, List.mem_singleton.mp h⟩
    · cases h
  · rintro ⟨k, hk, q, rfl⟩
    refine ⟨k, hk, ?_⟩
    unfold Ups.kn
    rw [if_pos q]; exact List.mem_singleton.mpr rfl
  · intro h
    unfold Ups.ko at h
    split at h
    · rename_i q
      obtain ⟨k1, k2, k3, k4⟩ := kS_at q.1
      rw [List.mem_singleton] at h
      subst h
      exact ⟨_, k2, k3, rfl, q.2⟩
    · cases h
  · rintro ⟨j, j1, rfl, rfl, j2⟩
    have hj := D.ax_lt 1 i j j1
    obtain ⟨k1, k2⟩ := kS_of j1 (by have := D.n_le hw; omega)
    unfold Ups.ko
    rw [k1, if_pos ⟨k2, j2⟩]; exact List.mem_singleton.mpr rfl
/-- where a listed node comes from -/
def Ups.Og (U : Ups) (m : Nat) (D : Doc) (i w : Nat) : Prop := (∃ j, 0 < j ∧ j < D.n ∧ D.up j = i ∧ w = D.ord j ∧ U.tk U.n w = false) ∨ ∃ k, k < U.n ∧ (U.uw k = 0 ∨ U.uw k = 4) ∧ U.up k = D.ord i ∧ w = U.sj m k
theorem Ups.fL_og (hw : D.wf) (h : w ∈ U.fL m D i) : U.Og m D i w := by
  unfold Ups.fL at h
  rw [List.mem_append, cutL_mem, cutL_mem] at h
  rcases h with ⟨x, -, h⟩ | ⟨p, -, h⟩
  · rcases (U.aL_mem hw).mp h with ⟨j, j1, j2, -, j3⟩ | ⟨k, k1, k2, k3⟩
    · simp [Doc.ax] at j1
      exact .inl ⟨j, by omega, by omega, j1.2.2.1, j2, j3⟩
    · have k2 := of_decide_eq_true k2
      exact .inr ⟨k, k1, .inl k2.1, k2.2.2.1, k3⟩
  · rcases (U.kL_mem hw).mp h with ⟨k, k1, k2, k3⟩ | ⟨j, j1, -, j2, j3⟩
    · have k2 := of_decide_eq_true k2
      refine .inr ⟨k, k1, ?_, k2.2.1, k3⟩
      rcases k2.1 with q | q
      · exact .inr q
      · exact .inl q.1
    · simp [Doc.ax] at j1
      exact .inl ⟨j, by omega, by omega, j1.2.2.1, j2, j3⟩
theorem Ups.og_one (hw : D.wf) (hu : U.wf m D) (hk : U.ok) (hi : i < D.n) (hj : j < D.n) (h1 : U.Og m D i w) (h2 : U.Og m D j w) : i = j := by
  rcases h1 with ⟨a, a0, a1, a2, a3, a4⟩ | ⟨k, k1, k2, k3, k4⟩ <;> rcases h2 with ⟨b, b0, b1, b2, b3, b4⟩ | ⟨l, l1, l2, l3, l4⟩
  · have := D.ord_inj hw a1 b1 (by rw [← a3, ← b3])
    subst this; rw [← a2, ← b2]
  · subst a3; exact absurd l4.symm (U.sj_old hu l1 l2 a1 a4)
  · subst b3; exact absurd k4.symm (U.sj_old hu k1 k2 b1 b4)
  · have := U.sj_inj hu hk k1 l1 k2 l2 (by rw [← k4, ← l4])
    subst this
    exact D.ord_inj hw hi hj (by rw [← k3, ← l3])
theorem nd_if {q : Prop} [Decidable q] : (if q then [w] else [] : List Nat).Nodup := by
  split
  · exact List.nodup_cons.mpr ⟨by simp, List.nodup_nil⟩
  · exact List.nodup_nil
theorem mem_if {q : Prop} [Decidable q] {a : Nat} : a ∈ (if q then [w] else [] : List Nat) ↔ q ∧ a = w := by
  split
  · rename_i h; simp [h]
  · rename_i h; simp [h]
end UPS
