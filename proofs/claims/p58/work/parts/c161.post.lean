/-! ===== children before their parents ===== -/
/-- how many stand above a node -/
def Doc.dep (D : Doc) (i : Nat) : Nat := fb_ct (fun j => decide (j < i ∧ i < D.en j)) 64
/-- a node's place when children go before their parents -/
def Doc.po (D : Doc) (i : Nat) : Nat := D.en i - 1 - D.dep i
noncomputable def Doc.ip (D : Doc) (p : Nat) : Nat := Classical.epsilon fun i => i < D.n ∧ D.po i = p
noncomputable def Doc.lf (D : Doc) (p : Nat) : Nat := D.ip p - D.dep (D.ip p)
noncomputable def Doc.co (D E : Doc) (p q : Nat) : Nat := if D.kd (D.ip p) = E.kd (E.ip q) ∧ D.nm (D.ip p) = E.nm (E.ip q) ∧ D.vl (D.ip p) = E.vl (E.ip q) ∧ D.dc (D.ip p) = E.dc (E.ip q) then 0 else 1
noncomputable def dist (D E : Doc) : Int32 := nI (dpF D.lf E.lf (D.co E) 0 0 D.n E.n)
section PST
variable {D E : Doc} {i j k p q n : Nat}
theorem Doc.dep_eq (hw : D.wf) (hi : i < D.n) (h : i ≤ k) : D.dep i = fb_ct (fun j => decide (j < i ∧ i < D.en j)) k := by
  have h60 := D.n_le hw
  unfold Doc.dep
  rw [ct_cut 64 (n := i) (fun j hj => decide_eq_false fun z => by omega) (by omega), ct_cut k (n := i) (fun j hj => decide_eq_false fun z => by omega) h]
theorem Doc.dep_le (hw : D.wf) (hi : i < D.n) : D.dep i ≤ i := by
  rw [D.dep_eq hw hi (Nat.le_refl _)]; exact fb_ct_le _ _
theorem Doc.dep_0 (hw : D.wf) : D.dep 0 = 0 := by have := D.dep_le hw (D.n_pos hw); omega
theorem Doc.dep_up (hw : D.wf) (h0 : 0 < i) (hi : i < D.n) : D.dep i = D.dep (D.up i) + 1 := by
  have hu := D.up_lt hw h0 hi
  rw [D.dep_eq hw hi (Nat.le_refl _), ct_same (a := D.up i + 1) (by omega) (fun k h1 h2 => decide_eq_false fun z => by have := (D.en_up hw h2 hi).mp z.2; omega), ct_s1 (decide_eq_true ⟨hu, (D.en_up hw hu hi).mpr ⟨Nat.le_refl _, D.en_gt hw (by omega)⟩⟩), D.dep_eq hw (show D.up i < D.n by omega) (Nat.le_refl _)]
  · congr 1
    refine fb_ct_cong fun k hk => decide_eq_decide.mpr ⟨fun z => ⟨hk, ((D.en_up hw (by omega) hi).mp z.2).2⟩, fun z => ⟨by omega, (D.en_up hw (by omega) hi).mpr ⟨by omega, z.2⟩⟩⟩
/-- below: deeper, and earlier -/
theorem Doc.dep_in (hw : D.wf) (hi : i < D.n) (h1 : i < j) (h2 : j < D.en i) : D.dep i + 1 ≤ D.dep j := by
  have h60 := D.n_le hw
  have e := D.en_le hw hi
  refine ct_lt (fun k hk z => ?_) ⟨i, by omega, decide_eq_true ⟨h1, h2⟩, decide_eq_false fun z => by omega⟩
  have z := of_decide_eq_true z
  have := D.en_in hw z.1 z.2 (by omega)
  exact decide_eq_true ⟨by omega, by omega⟩
theorem Doc.dep_add (hw : D.wf) (hi : i < D.n) (h1 : j ≤ i) : D.dep i ≤ D.dep j + (i - j) := by
  obtain ⟨d, rfl⟩ := Nat.exists_eq_add_of_le h1
  rw [D.dep_eq hw hi (Nat.le_refl _), D.dep_eq hw (show j < D.n by omega) (Nat.le_refl _), fb_ct_split]
  have a := fb_ct_le (fun k => decide (j + k < j + d ∧ j + d < D.en (j + k))) d
  have b : fb_ct (fun k => decide (k < j + d ∧ j + d < D.en k)) j ≤ fb_ct (fun k => decide (k < j ∧ j < D.en k)) j := fb_ct_sub fun k hk z => by
    have z := of_decide_eq_true z
    exact decide_eq_true ⟨hk, by omega⟩
  omega
theorem Doc.dep_out (hw : D.wf) (hj : j < D.n) (h1 : i < j) (h2 : D.en i ≤ j) : D.dep j ≤ D.dep i + (j - D.en i) := by
  have hi : i < D.n := by omega
  have g := D.en_gt hw hi
  obtain ⟨d, rfl⟩ := Nat.exists_eq_add_of_le h2
  rw [D.dep_eq hw hj (Nat.le_refl _), D.dep_eq hw hi (Nat.le_refl _), fb_ct_split]
  have a := fb_ct_le (fun k => decide (D.en i + k < D.en i + d ∧ D.en i + d < D.en (D.en i + k))) d
  rw [ct_same (a := i) (by omega) (fun k q1 q2 => decide_eq_false fun z => ?_)]
  · have b : fb_ct (fun k => decide (k < D.en i + d ∧ D.en i + d < D.en k)) i ≤ fb_ct (fun k => decide (k < i ∧ i < D.en k)) i := fb_ct_sub fun k hk z => by
      have z := of_decide_eq_true z
      exact decide_eq_true ⟨hk, by omega⟩
    omega
  · rcases Nat.eq_or_lt_of_le q1 with e | e
    · subst e; omega
    · have := D.en_in hw e q2 hi
      omega
theorem Doc.po_in (hw : D.wf) (hi : i < D.n) (h1 : i < j) (h2 : j < D.en i) : D.po j < D.po i := by
  have e1 := D.en_le hw hi
  have e2 := D.en_in hw h1 h2 hi
  have e3 := D.en_gt hw (show j < D.n by omega)
  have d1 := D.dep_in hw hi h1 h2
  have d2 := D.dep_le hw hi
  unfold Doc.po
  omega
theorem Doc.po_out (hw : D.wf) (hj : j < D.n) (h1 : i < j) (h2 : D.en i ≤ j) : D.po i < j - D.dep j ∧ j - D.dep j ≤ D.po j := by
  have e1 := D.en_gt hw hj
  have e2 := D.en_gt hw (show i < D.n by omega)
  have d1 := D.dep_out hw hj h1 h2
  have d2 := D.dep_le hw hj
  have d3 := D.dep_le hw (show i < D.n by omega)
  unfold Doc.po
  omega
theorem Doc.po_inj (hw : D.wf) (hi : i < D.n) (hj : j < D.n) (e : D.po i = D.po j) : i = j := by
  have key : ∀ i j, i < D.n → j < D.n → i < j → D.po i ≠ D.po j := fun i j hi hj h => by
    rcases Nat.lt_or_ge j (D.en i) with w | w
    · have := D.po_in hw hi h w; omega
    · have := D.po_out hw hj h w; omega
  rcases Nat.lt_trichotomy i j with w | w | w
  · exact absurd e (key i j hi hj w)
  · exact w
  · exact absurd e.symm (key j i hj hi w)
theorem Doc.po_lt (hw : D.wf) (hi : i < D.n) : D.po i < D.n := by
  have e1 := D.en_le hw hi
  have e2 := D.en_gt hw hi
  unfold Doc.po; omega
theorem fin_sur : ∀ (n : Nat) (f : Nat → Nat), (∀ i, i < n → f i < n) → (∀ i j, i < n → j < n → f i = f j → i = j) → ∀ p, p < n → ∃ i, i < n ∧ f i = p
  | 0, f, _, _, p, h => absurd h (Nat.not_lt_zero _)
  | n + 1, f, h1, h2, p, hp => by
    have hn := h1 n (by omega)
    have ih := fin_sur n (fun i => if f i = n then f n else f i) (fun i hi => by
      have := h1 i (by omega)
      by_cases q : f i = n
      · rw [if_pos q]
        have : f i ≠ f n := fun z => by have := h2 i n (by omega) (by omega) z; omega
        omega
      · rw [if_neg q]; omega) (fun i j hi hj e => by
      have n1 : f i ≠ f n := fun z => by have := h2 i n (by omega) (by omega) z; omega
      have n2 : f j ≠ f n := fun z => by have := h2 j n (by omega) (by omega) z; omega
      by_cases q : f i = n
      · by_cases q2 : f j = n
        · exact h2 i j (by omega) (by omega) (q.trans q2.symm)
        · rw [if_pos q, if_neg q2] at e; exact absurd e.symm n2
      · by_cases q2 : f j = n
        · rw [if_neg q, if_pos q2] at e; exact absurd e n1
        · rw [if_neg q, if_neg q2] at e; exact h2 i j (by omega) (by omega) e)
    by_cases q : f n = p
    · exact ⟨n, by omega, q⟩
    · rcases Nat.lt_or_ge p n with w | w
      · obtain ⟨i, hi, e⟩ := ih p w
        by_cases q2 : f i = n
        · rw [if_pos q2] at e; exact absurd e q
        · rw [if_neg q2] at e; exact ⟨i, by omega, e⟩
      · have : p = n := by omega
        subst this
        obtain ⟨i, hi, e⟩ := ih (f p) (by omega)
        by_cases q2 : f i = p
        · exact ⟨i, by omega, q2⟩
        · rw [if_neg q2] at e
          have := h2 i p (by omega) (by omega) e
          omega
theorem Doc.ip_sp (hw : D.wf) (hp : p < D.n) : D.ip p < D.n ∧ D.po (D.ip p) = p :=
  Classical.epsilon_spec (p := fun i => i < D.n ∧ D.po i = p) (fin_sur D.n D.po (fun i hi => D.po_lt hw hi) (fun i j hi hj e => D.po_inj hw hi hj e) p hp)
theorem Doc.ip_po (hw : D.wf) (hi : i < D.n) : D.ip (D.po i) = i := by
  have h := D.ip_sp hw (D.po_lt hw hi)
  exact D.po_inj hw h.1 hi h.2
theorem Doc.lf_po (hw : D.wf) (hi : i < D.n) : D.lf (D.po i) = i - D.dep i := by unfold Doc.lf; rw [D.ip_po hw hi]
theorem Doc.po_0 (hw : D.wf) : D.po 0 = D.n - 1 := by unfold Doc.po; rw [D.en_0 hw, D.dep_0 hw]; rfl
theorem Doc.lf_end (hw : D.wf) : D.lf (D.n - 1) = 0 := by rw [← D.po_0 hw, D.lf_po hw (D.n_pos hw)]; omega
theorem Doc.pol (hw : D.wf) : PoL D.n D.lf := by
  refine ⟨fun p hp => ?_, fun p q hpq hq => ?_⟩
  · obtain ⟨h1, h2⟩ := D.ip_sp hw hp
    have e := D.en_gt hw h1
    have d := D.dep_le hw h1
    unfold Doc.po at h2
    unfold Doc.lf
    omega
  · obtain ⟨h1, h2⟩ := D.ip_sp hw (show p < D.n by omega)
    obtain ⟨g1, g2⟩ := D.ip_sp hw hq
    unfold Doc.lf
    generalize D.ip p = i at *
    generalize D.ip q = j at *
    rcases Nat.lt_trichotomy i j with w | w | w
    · rcases Nat.lt_or_ge j (D.en i) with z | z
      · have := D.po_in hw h1 w z; omega
      · have := D.po_out hw g1 w z; left; omega
    · subst w; omega
    · rcases Nat.lt_or_ge i (D.en j) with z | z
      · have := D.dep_add hw h1 (show j ≤ i by omega)
        have d1 := D.dep_le hw h1
        have d2 := D.dep_le hw g1
        right; omega
      · have := D.po_out hw h1 w z; omega
theorem Doc.co_sym (D E : Doc) : (fun x y => D.co E y x) = E.co D := by
  funext x y
  unfold Doc.co
  by_cases q : D.kd (D.ip y) = E.kd (E.ip x) ∧ D.nm (D.ip y) = E.nm (E.ip x) ∧ D.vl (D.ip y) = E.vl (E.ip x) ∧ D.dc (D.ip y) = E.dc (E.ip x)
  · rw [if_pos q, if_pos ⟨q.1.symm, q.2.1.symm, q.2.2.1.symm, q.2.2.2.symm⟩]
  · rw [if_neg q, if_neg fun z => q ⟨z.1.symm, z.2.1.symm, z.2.2.1.symm, z.2.2.2.symm⟩]
theorem dist_sym (D E : Doc) : dist D E = dist E D := by
  unfold dist
  rw [dpF_sym D.lf E.lf (D.co E) _ 0 0 D.n E.n (Nat.le_refl _), Doc.co_sym]
theorem Doc.co_le (D E : Doc) (p q : Nat) : D.co E p q ≤ 1 := by unfold Doc.co; split <;> omega
end PST
