/-! ===== the lists make a forest; the rows speak well of it ===== -/
noncomputable def Ups.pa (U : Ups) (m : Nat) (D : Doc) (w : Nat) : Nat := by
  classical
  exact if h : ∃ v, w ∈ U.F m D v then Classical.choose h else 0
section UPS2
variable {U : Ups} {D : Doc} {m i j k e v w x p : Nat} {R : Rws}
theorem Ups.fL_nd (hw : D.wf) (hu : U.wf m D) (hk : U.ok) (hi : i < D.n) : (U.fL m D i).Nodup := by
  have h60 := D.n_le hw
  have ia1 : ∀ {k x}, U.ia k (D.ord i) x = true → U.uw k = 0 ∧ U.uk k = 2 ∧ U.un k = nI x := fun h => by
    have h := of_decide_eq_true h
    exact ⟨h.1, h.2.1, h.2.2.2⟩
  have ik1 : ∀ {k p}, U.ik k (D.ord i) p = true → (U.uw k = 4 ∨ (U.uw k = 0 ∧ U.uk k ≠ 2)) ∧ U.ul k = p := fun h => by
    have h := of_decide_eq_true h
    exact ⟨h.1, h.2.2⟩
  have ax60 : ∀ {a j}, D.ax a i j = true → j < D.n := fun h => D.ax_lt _ i _ h
  unfold Ups.fL
  rw [List.nodup_append]
  refine ⟨cutL_nd _ (fun x hx => ?_) (fun x y hxy hy w h1 h2 => ?_), cutL_nd _ (fun p hp => ?_) (fun p q hpq hq w h1 h2 => ?_), fun a h1 b h2 e => ?_⟩
  · unfold Ups.aL
    rw [List.nodup_append]
    refine ⟨cutL_nd _ (fun p _ => nd_if) (fun p q hpq hq w h1 h2 => ?_), cutL_nd _ (fun p _ => nd_if) (fun j k hjk hkn w h1 h2 => ?_), fun a h1 b h2 e => ?_⟩
    · have h1 := (mem_if.mp h1).2
      have h2 := (mem_if.mp h2).2
      obtain ⟨a1, a2, a3, -⟩ := kS_at (P := D.ax 11 i) (show p < fb_ct (D.ax 11 i) 64 by omega)
      obtain ⟨b1, b2, b3, -⟩ := kS_at hq
      have := D.ord_inj hw (ax60 a2) (ax60 b2) (by rw [← h1, ← h2])
      rw [this] at a3; omega
    · obtain ⟨a1, a2⟩ := mem_if.mp h1
      obtain ⟨b1, b2⟩ := mem_if.mp h2
      have := U.sj_inj hu hk (show j < U.n by omega) hkn (.inl (ia1 a1).1) (.inl (ia1 b1).1) (by rw [← a2, ← b2])
      omega
    · subst e
      obtain ⟨p, p1, p2⟩ := cutL_mem.mp h1
      obtain ⟨k, k1, k2⟩ := cutL_mem.mp h2
      obtain ⟨⟨-, p3⟩, p4⟩ := mem_if.mp p2
      obtain ⟨k3, k4⟩ := mem_if.mp k2
      obtain ⟨a1, a2, a3, -⟩ := kS_at p1
      exact U.sj_old hu k1 (.inl (ia1 k3).1) (ax60 a2) p3 (by rw [← k4, ← p4])
  · rcases (U.aL_mem hw).mp h1 with ⟨a, a1, a2, a3, a4⟩ | ⟨k, k1, k2, k3⟩ <;> rcases (U.aL_mem hw).mp h2 with ⟨b, b1, b2, b3, b4⟩ | ⟨l, l1, l2, l3⟩
    · rw [a3, nI_eq (by omega) (by omega)] at b3; omega
    · subst a2; exact U.sj_old hu l1 (.inl (ia1 l2).1) (ax60 a1) a4 l3.symm
    · subst b2; exact U.sj_old hu k1 (.inl (ia1 k2).1) (ax60 b1) b4 k3.symm
    · have := U.sj_inj hu hk k1 l1 (.inl (ia1 k2).1) (.inl (ia1 l2).1) (by rw [← k3, ← l3])
      subst this
      have a := (ia1 k2).2.2
      rw [(ia1 l2).2.2, nI_eq (by omega) (by omega)] at a; omega
  · unfold Ups.kL
    rw [List.nodup_append]
    refine ⟨cutL_nd _ (fun p _ => nd_if) (fun j k hjk hkn w h1 h2 => ?_), nd_if, fun a h1 b h2 e => ?_⟩
    · obtain ⟨a1, a2⟩ := mem_if.mp h1
      obtain ⟨b1, b2⟩ := mem_if.mp h2
      have := U.sj_inj hu hk (show j < U.n by omega) hkn (by have := (ik1 a1).1; omega) (by have := (ik1 b1).1; omega) (by rw [← a2, ← b2])
      omega
    · subst e
      obtain ⟨k, k1, k2⟩ := cutL_mem.mp h1
      obtain ⟨⟨p1, p3⟩, p4⟩ := mem_if.mp h2
      obtain ⟨k3, k4⟩ := mem_if.mp k2
      obtain ⟨a1, a2, a3, -⟩ := kS_at p1
      exact U.sj_old hu k1 (by have := (ik1 k3).1; omega) (ax60 a2) p3 (by rw [← k4, ← p4])
  · rcases (U.kL_mem hw).mp h1 with ⟨k, k1, k2, k3⟩ | ⟨a, a1, a2, a3, a4⟩ <;> rcases (U.kL_mem hw).mp h2 with ⟨l, l1, l2, l3⟩ | ⟨b, b1, b2, b3, b4⟩
    · have := U.sj_inj hu hk k1 l1 (by have := (ik1 k2).1; omega) (by have := (ik1 l2).1; omega) (by rw [← k3, ← l3])
      subst this
      have a := (ik1 k2).2
      rw [(ik1 l2).2] at a; omega
    · subst b3; exact U.sj_old hu k1 (by have := (ik1 k2).1; omega) (ax60 b1) b4 k3.symm
    · subst a3; exact U.sj_old hu l1 (by have := (ik1 l2).1; omega) (ax60 a1) a4 l3.symm
    · have := D.ord_inj hw (ax60 a1) (ax60 b1) (by rw [← a3, ← b3])
      subst this; omega
  · subst e
    obtain ⟨x, hx, h1⟩ := cutL_mem.mp h1
    obtain ⟨p, hp, h2⟩ := cutL_mem.mp h2
    rcases (U.aL_mem hw).mp h1 with ⟨j, a1, a2, a3, a4⟩ | ⟨k, k1, k2, k3⟩ <;> rcases (U.kL_mem hw).mp h2 with ⟨l, l1, l2, l3⟩ | ⟨b, b1, b2, b3, b4⟩
    · subst a2; exact U.sj_old hu l1 (by have := (ik1 l2).1; omega) (ax60 a1) a4 l3.symm
    · have := D.ord_inj hw (ax60 a1) (ax60 b1) (by rw [← a2, ← b3])
      subst this
      simp [Doc.ax] at a1 b1
      exact b1.2.2.2 a1.2.2.2
    · have := U.sj_inj hu hk k1 l1 (.inl (ia1 k2).1) (by have := (ik1 l2).1; omega) (by rw [← k3, ← l3])
      subst this
      have a := ia1 k2
      have b := (ik1 l2).1
      omega
    · subst b3; exact U.sj_old hu k1 (.inl (ia1 k2).1) (ax60 b1) b4 k3.symm
theorem Doc.ps_cases (hw : D.wf) (v : Nat) (hv : v < 60) : (∃ i, i < D.n ∧ D.ord i = v ∧ D.ps (nI v) D.n = i + 1) ∨ ((∀ i, i < D.n → D.ord i ≠ v) ∧ D.ps (nI v) D.n = 0) := by
  by_cases h : ∃ i, i < D.n ∧ D.ord i = v
  · obtain ⟨i, hi, rfl⟩ := h
    exact .inl ⟨i, hi, rfl, D.ps_in hw hi _ (Nat.le_refl _) hi⟩
  · have h' : ∀ i, i < D.n → D.ord i ≠ v := fun i hi e => h ⟨i, hi, e⟩
    refine .inr ⟨h', ?_⟩
    have key : ∀ n, n ≤ D.n → D.ps (nI v) n = 0 := by
      intro n
      induction n with
      | zero => intro _; rfl
      | succ n ih =>
        intro hn
        unfold Doc.ps
        rw [if_neg (fun z => h' n (by omega) ((nI_eq (by omega) (by have := D.ord_lt hw (show n < D.n by omega); omega)).mp z).symm)]
        exact ih (by omega)
    exact key _ (Nat.le_refl _)
theorem Doc.ps_ord (hw : D.wf) (hi : i < D.n) : D.ps (nI (D.ord i)) D.n = i + 1 := D.ps_in hw hi _ (Nat.le_refl _) hi
theorem Doc.rws_at (hw : D.wf) (hi : i < D.n) : D.rws.1 (D.ord i) = D.kd i ∧ D.rws.2.1 (D.ord i) = D.nm i ∧ D.rws.2.2.1 (D.ord i) = D.vl i ∧ D.rws.2.2.2 (D.ord i) = D.dc i := by
  unfold Doc.rws
  dsimp only
  rw [D.ps_ord hw hi, Nat.add_sub_cancel]
  exact ⟨rfl, rfl, rfl, rfl⟩
theorem Ups.F_at (hw : D.wf) (hi : i < D.n) : U.F m D (D.ord i) = if D.kd i = 0 then U.fL m D i else [] := by
  unfold Ups.F
  rw [D.ps_ord hw hi, Nat.add_sub_cancel]
  by_cases q : D.kd i = 0
  · rw [if_pos ⟨D.ord_lt hw hi, by omega, q⟩, if_pos q]
  · rw [if_neg (fun z => q z.2.2), if_neg q]
theorem Ups.F_mem (hw : D.wf) : w ∈ U.F m D v ↔ ∃ i, i < D.n ∧ D.ord i = v ∧ D.kd i = 0 ∧ w ∈ U.fL m D i := by
  constructor
  · intro h
    have h0 := h
    unfold Ups.F at h
    split at h
    · rename_i q
      rcases D.ps_cases hw v q.1 with ⟨i, a, b, d⟩ | ⟨-, e⟩
      · rw [d, Nat.add_sub_cancel] at q h
        exact ⟨i, a, b, q.2.2, h⟩
      · exact absurd e q.2.1
    · cases h
  · rintro ⟨i, a, rfl, d, h⟩
    rw [U.F_at hw a, if_pos d]; exact h
/-- the members' lists: only elements have some; old nodes and new ones -/
theorem Ups.F_own (hw : D.wf) (hu : U.wf m D) (hr : m + U.ins U.n ≤ 60) (h : w ∈ U.F m D v) : w < 60 ∧ w ≠ 0 := by
  obtain ⟨i, hi, hk, e, hm⟩ := (U.F_mem hw).mp h
  have h0 := D.ord_0 hw
  rcases U.fL_og hw hm with ⟨j, j0, j1, j2, rfl, j3⟩ | ⟨k, k1, k2, k3, rfl⟩
  · refine ⟨D.ord_lt hw j1, fun z => ?_⟩
    have := D.ord_inj hw j1 (D.n_pos hw) (by rw [z, h0]); omega
  · unfold Ups.sj
    have m0 := hu.1.2.2 0 (D.n_pos hw)
    split
    · rename_i q
      have := U.ins_lt q k1; omega
    · obtain ⟨j, j1, j2, -, j4, -⟩ := hu.2.2.1 k k1 (by omega)
      rw [j2]
      refine ⟨D.ord_lt hw j1, fun z => ?_⟩
      have := D.ord_inj hw j1 (D.n_pos hw) (by rw [z, h0])
      have := (j4 (by omega)).1; omega
/-- the forest -/
theorem Ups.frs (hw : D.wf) (hu : U.wf m D) (hk : U.ok) (hr : m + U.ins U.n ≤ 60) : Frs0 (U.F m D) (U.pa m D) := by
  refine ⟨fun v w h => ⟨?_, U.F_own hw hu hr h⟩, fun v => ?_⟩
  · have hex : ∃ v, w ∈ U.F m D v := ⟨v, h⟩
    unfold Ups.pa
    rw [dif_pos hex]
    obtain ⟨i, i1, i2, i3, i4⟩ := (U.F_mem hw).mp (Classical.choose_spec hex)
    obtain ⟨j, j1, j2, j3, j4⟩ := (U.F_mem hw).mp h
    rw [← i2, ← j2, U.og_one hw hu hk i1 j1 (U.fL_og hw i4) (U.fL_og hw j4)]
  · unfold Ups.F
    split
    · rename_i q
      rcases D.ps_cases hw v q.1 with ⟨i, a, b, d⟩ | ⟨-, e⟩
      · rw [d, Nat.add_sub_cancel]
        exact U.fL_nd hw hu hk a
      · exact absurd e q.2.1
    · exact List.nodup_nil
/-- what hangs on the root: old nodes and new ones -/
def Ups.In (U : Ups) (m : Nat) (D : Doc) (K v : Nat) : Prop := (∃ i, i < D.n ∧ v = D.ord i) ∨ ∃ k, k < K ∧ U.uw k = 0 ∧ v = m + U.ins k
theorem Ups.F_In (hw : D.wf) (hu : U.wf m D) (h : w ∈ U.F m D v) : U.In m D U.n w := by
  obtain ⟨i, hi, e, hk, hm⟩ := (U.F_mem hw).mp h
  rcases U.fL_og hw hm with ⟨j, j0, j1, j2, j3, -⟩ | ⟨k, k1, k2, k3, rfl⟩
  · exact .inl ⟨j, j1, j3⟩
  · unfold Ups.sj
    split
    · rename_i q; exact .inr ⟨k, k1, q, rfl⟩
    · obtain ⟨j, j1, j2, -⟩ := hu.2.2.1 k k1 (by omega)
      exact .inl ⟨j, j1, j2⟩
theorem Ups.rch_In (hw : D.wf) (hu : U.wf m D) (h : Rch (U.F m D) v) : U.In m D U.n v := by
  obtain ⟨k, hk⟩ := h
  cases k with
  | zero => exact .inl ⟨0, D.n_pos hw, by rw [D.ord_0 hw]; exact hk⟩
  | succ k =>
    obtain ⟨u, -, h⟩ := hk
    exact U.F_In hw hu h
end UPS2
