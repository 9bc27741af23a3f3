/-! ===== the rows once all is done ===== -/
def Gd (R : Rws) (v : Nat) : Prop :=
  ((R.1 v = 1 ∧ R.2.1 v = -1) ∨ (R.1 v ≠ 1 ∧ nmv (R.2.1 v))) ∧ ((R.1 v = 0 ∧ R.2.2.1 v = -1) ∨ (R.1 v ≠ 0 ∧ vlv (R.2.2.1 v))) ∧ (R.2.2.2 v = -1 ∨ (R.1 v = 0 ∧ spv (R.2.2.2 v)))
def Ups.RK (U : Ups) (m : Nat) (D : Doc) (K : Nat) (R : Rws) : Prop :=
  (∀ i, i < D.n → R.1 (D.ord i) = D.kd i ∧ Gd R (D.ord i)) ∧
  ∀ k, k < K → U.uw k = 0 → R.1 (m + U.ins k) = nI (U.uk k) ∧ R.2.1 (m + U.ins k) = U.un k ∧ R.2.2.1 (m + U.ins k) = U.uc k ∧ R.2.2.2 (m + U.ins k) = -1
section UPS3
variable {U : Ups} {D : Doc} {m i j k e v w x p : Nat} {R : Rws}
theorem upd_s (f : Nat → Int32) (k : Nat) (x : Int32) : upd f k x k = x := if_pos rfl
theorem upd_n (f : Nat → Int32) {k j : Nat} (x : Int32) (h : j ≠ k) : upd f k x j = f j := if_neg h
theorem Ups.rk (hw : D.wf) (hu : U.wf m D) : ∀ K, K ≤ U.n → U.RK m D K (U.rw m D.rws K) := by
  obtain ⟨⟨u0, u1, u2⟩, u3, u4, u5, u6, u7, u8, u9⟩ := hu
  intro K
  induction K with
  | zero =>
    intro _
    refine ⟨fun i hi => ?_, fun k hk => by omega⟩
    obtain ⟨a, b, d, e⟩ := D.rws_at hw hi
    refine ⟨a, ?_, ?_, ?_⟩
    · show (D.rws.1 _ = 1 ∧ D.rws.2.1 _ = -1) ∨ (D.rws.1 _ ≠ 1 ∧ nmv (D.rws.2.1 _))
      rw [a, b]; exact D.nm_of hw hi
    · show (D.rws.1 _ = 0 ∧ D.rws.2.2.1 _ = -1) ∨ (D.rws.1 _ ≠ 0 ∧ vlv (D.rws.2.2.1 _))
      rw [a, d]; exact D.vl_of hw hi
    · show D.rws.2.2.2 _ = -1 ∨ (D.rws.1 _ = 0 ∧ spv (D.rws.2.2.2 _))
      rw [a, e]; exact D.dc_of hw hi
  | succ K ih =>
    intro hK
    obtain ⟨h1, h2⟩ := ih (by omega)
    unfold Ups.rw
    generalize U.rw m D.rws K = Q at *
    by_cases q0 : U.uw K = 0
    · rw [if_pos q0]
      refine ⟨fun i hi => ?_, fun k hk hk0 => ?_⟩
      · have hne : D.ord i ≠ m + U.ins K := by have := u2 i hi; omega
        unfold Gd
        dsimp only
        rw [upd_n _ _ hne, upd_n _ _ hne, upd_n _ _ hne, upd_n _ _ hne]
        exact h1 i hi
      · dsimp only
        by_cases e : k = K
        · subst e
          simp only [upd_s]
          exact ⟨trivial, trivial, trivial, trivial⟩
        · have hl := U.ins_lt hk0 (show k < K by omega)
          have hne : m + U.ins k ≠ m + U.ins K := by omega
          rw [upd_n _ _ hne, upd_n _ _ hne, upd_n _ _ hne, upd_n _ _ hne]
          exact h2 k (by omega) hk0
    · rw [if_neg q0]
      obtain ⟨t, t1, t2, -, -, t5, t6, t7⟩ := u4 K (by omega) q0
      have hne : ∀ k, m + U.ins k ≠ U.ut K := fun k z => by have := u2 t t1; omega
      have hnw : ∀ k, k < K + 1 → U.uw k = 0 → k < K := fun k hk hz => by
        rcases Nat.lt_or_ge k K with a | a
        · exact a
        · exfalso; rw [show k = K by omega] at hz; exact q0 hz
      by_cases q2 : U.uw K = 2
      · rw [if_pos q2]
        refine ⟨fun i hi => ?_, fun k hk hk0 => ?_⟩
        · obtain ⟨a, b, d, f⟩ := h1 i hi
          refine ⟨a, ?_, d, f⟩
          dsimp only
          by_cases e : D.ord i = U.ut K
          · rw [e, upd_s, ← e, a]
            have := D.ord_inj hw hi t1 (by rw [e, t2])
            subst this
            exact .inr ⟨t5 q2, u7 K (by omega) q2⟩
          · rw [upd_n _ _ e]; exact b
        · dsimp only
          rw [upd_n _ _ (hne k)]
          exact h2 k (hnw k hk hk0) hk0
      · rw [if_neg q2]
        by_cases q3 : U.uw K = 3
        · rw [if_pos q3]
          refine ⟨fun i hi => ?_, fun k hk hk0 => ?_⟩
          · obtain ⟨a, b, d, f⟩ := h1 i hi
            refine ⟨a, b, ?_, f⟩
            dsimp only
            by_cases e : D.ord i = U.ut K
            · rw [e, upd_s, ← e, a]
              have := D.ord_inj hw hi t1 (by rw [e, t2])
              subst this
              exact .inr ⟨t6 q3, u8 K (by omega) q3⟩
            · rw [upd_n _ _ e]; exact d
          · dsimp only
            rw [upd_n _ _ (hne k)]
            exact h2 k (hnw k hk hk0) hk0
        · rw [if_neg q3]
          by_cases q5 : U.uw K = 5
          · rw [if_pos q5]
            refine ⟨fun i hi => ?_, fun k hk hk0 => ?_⟩
            · obtain ⟨a, b, d, f⟩ := h1 i hi
              refine ⟨a, b, d, ?_⟩
              dsimp only
              by_cases e : D.ord i = U.ut K
              · rw [e, upd_s, ← e, a]
                have := D.ord_inj hw hi t1 (by rw [e, t2])
                subst this
                rcases u9 K (by omega) q5 with z | z
                · exact .inl z
                · exact .inr ⟨t7 q5, z⟩
              · rw [upd_n _ _ e]; exact f
            · dsimp only
              rw [upd_n _ _ (hne k)]
              exact h2 k (hnw k hk hk0) hk0
          · rw [if_neg q5]
            exact ⟨h1, fun k hk hk0 => h2 k (hnw k hk hk0) hk0⟩
theorem Ups.new_old (hw : D.wf) (hu : U.wf m D) (hi : i < D.n) : (U.new m D).1 (D.ord i) = D.kd i := ((U.rk hw hu _ (Nat.le_refl _)).1 i hi).1
theorem Ups.new_ins (hw : D.wf) (hu : U.wf m D) (hk : k < U.n) (h0 : U.uw k = 0) : (U.new m D).1 (m + U.ins k) = nI (U.uk k) ∧ (U.new m D).2.1 (m + U.ins k) = U.un k := by
  have := (U.rk hw hu _ (Nat.le_refl _)).2 k hk h0
  exact ⟨this.1, this.2.1⟩
theorem Ups.In_gd (hw : D.wf) (hu : U.wf m D) (h : U.In m D U.n v) : ((U.new m D).1 v = 0 ∨ (U.new m D).1 v = 1 ∨ (U.new m D).1 v = 2) ∧ Gd (U.new m D) v := by
  obtain ⟨h1, h2⟩ := U.rk hw hu _ (Nat.le_refl _)
  rcases h with ⟨i, hi, rfl⟩ | ⟨k, hk, h0, rfl⟩
  · obtain ⟨a, b⟩ := h1 i hi
    refine ⟨?_, b⟩
    rw [show (U.new m D).1 (D.ord i) = D.kd i from a]; exact D.kd_of hw hi
  · obtain ⟨a, b, d, e⟩ := h2 k hk h0
    unfold Ups.new Gd
    rw [a, b, d, e]
    obtain ⟨-, -, -, -, u6, -⟩ := hu
    rcases u6 k hk h0 with ⟨x, y, z⟩ | ⟨x, y, z⟩ | ⟨x, y, z⟩
    · rw [x]
      exact ⟨.inl rfl, .inr ⟨by decide, y⟩, .inl ⟨rfl, z⟩, .inl rfl⟩
    · rw [x]
      exact ⟨.inr (.inl rfl), .inl ⟨rfl, y⟩, .inr ⟨by decide, z⟩, .inl rfl⟩
    · rw [x]
      exact ⟨.inr (.inr rfl), .inr ⟨by decide, y⟩, .inr ⟨by decide, z⟩, .inl rfl⟩
theorem Ups.rwsF (hw : D.wf) (hu : U.wf m D) : RwsF (U.F m D) (U.new m D) := by
  have h0 : (U.new m D).1 0 = 0 := by rw [← D.ord_0 hw, U.new_old hw hu (D.n_pos hw), D.kd_0 hw]
  refine ⟨h0, fun v w _ h => ?_, fun v h => (U.In_gd hw hu (U.rch_In hw hu h)).1, fun v h => (U.In_gd hw hu (U.rch_In hw hu h)).2.1, fun v h => (U.In_gd hw hu (U.rch_In hw hu h)).2.2.1, fun v h => (U.In_gd hw hu (U.rch_In hw hu h)).2.2.2⟩
  obtain ⟨i, i1, rfl, i2, -⟩ := (U.F_mem hw).mp h
  rw [U.new_old hw hu i1]; exact i2
/-- the document once all is done -/
noncomputable def Ups.doc (U : Ups) (m : Nat) (D : Doc) : Doc := mkF (U.F m D) (U.pa m D) (U.new m D)
theorem Ups.doc_wf (hw : D.wf) (hu : U.wf m D) (hk : U.ok) (hr : m + U.ins U.n ≤ 60) : (U.doc m D).wf := mkF_wf (U.frs hw hu hk hr) (U.rwsF hw hu)
/-- a listed node's kind: attributes first -/
theorem Ups.aL_kd (hw : D.wf) (hu : U.wf m D) (h : w ∈ U.aL m D i x) : (U.new m D).1 w = 2 ∧ (U.new m D).2.1 w = nI x := by
  rcases (U.aL_mem hw).mp h with ⟨j, j1, rfl, j2, -⟩ | ⟨k, k1, k2, rfl⟩
  · refine ⟨?_, j2⟩
    rw [U.new_old hw hu (D.ax_lt 11 i j j1)]
    simp [Doc.ax] at j1; exact j1.2.2.2
  · have k2 := of_decide_eq_true k2
    unfold Ups.sj
    rw [if_pos k2.1]
    obtain ⟨a, b⟩ := U.new_ins hw hu k1 k2.1
    rw [a, b, k2.2.1]; exact ⟨rfl, k2.2.2.2⟩
theorem Ups.kL_kd (hw : D.wf) (hu : U.wf m D) (h : w ∈ U.kL m D i p) : (U.new m D).1 w ≠ 2 := by
  rcases (U.kL_mem hw).mp h with ⟨k, k1, k2, rfl⟩ | ⟨j, j1, -, rfl, -⟩
  · have k2 := of_decide_eq_true k2
    unfold Ups.sj
    split
    · rename_i q
      rw [(U.new_ins hw hu k1 q).1]
      obtain ⟨-, -, -, -, u6, -⟩ := hu
      rcases u6 k k1 q with ⟨x, -⟩ | ⟨x, -⟩ | ⟨x, -⟩
      · rw [x]; decide
      · rw [x]; decide
      · exfalso; rcases k2.1 with z | z <;> omega
    · rename_i q
      obtain ⟨t, t1, t2, -, t4, -⟩ := hu.2.2.1 k k1 q
      rw [t2, U.new_old hw hu t1]
      exact (t4 (by rcases k2.1 with z | z <;> omega)).2
  · rw [U.new_old hw hu (D.ax_lt 1 i j j1)]
    simp [Doc.ax] at j1; exact j1.2.2.2
end UPS3
