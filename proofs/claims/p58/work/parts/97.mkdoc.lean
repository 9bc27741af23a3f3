/-! ===== the document of lists of children ===== -/
/-- rows by nodes: kind, name, value, declared space -/
abbrev Rws : Type := (Nat → Int32) × (Nat → Int32) × (Nat → Int32) × (Nat → Int32)
def mkD (F : Nat → List Nat) (pa r : Nat → Nat) (R : Rws) : Doc :=
  ((PL F r 0).length, fun i => (PL F r 0).getD i 0, fun i => (PL F r 0).idxOf (pa ((PL F r 0).getD i 0)), fun i => i + (PL F r ((PL F r 0).getD i 0)).length, fun i => R.1 ((PL F r 0).getD i 0), fun i => R.2.1 ((PL F r 0).getD i 0), fun i => R.2.2.1 ((PL F r 0).getD i 0), fun i => R.2.2.2 ((PL F r 0).getD i 0))
/-- what the rows must say of the nodes that hang on the root -/
def RwsOk (F : Nat → List Nat) (r : Nat → Nat) (R : Rws) : Prop :=
  R.1 0 = 0 ∧ (∀ v w, v ∈ PL F r 0 → w ∈ F v → R.1 v = 0) ∧ (∀ v, v ∈ PL F r 0 → R.1 v = 0 ∨ R.1 v = 1 ∨ R.1 v = 2) ∧
  (∀ v, v ∈ PL F r 0 → (R.1 v = 1 ∧ R.2.1 v = -1) ∨ (R.1 v ≠ 1 ∧ ∃ k, k < 8 ∧ R.2.1 v = nI k)) ∧
  (∀ v, v ∈ PL F r 0 → (R.1 v = 0 ∧ R.2.2.1 v = -1) ∨ (R.1 v ≠ 0 ∧ ∃ k, k < 1000 ∧ R.2.2.1 v = nI k)) ∧
  (∀ v, v ∈ PL F r 0 → R.2.2.2 v = -1 ∨ (R.1 v = 0 ∧ ∃ k, k < 4 ∧ R.2.2.2 v = nI k))
section MKD
variable {F : Nat → List Nat} {pa r : Nat → Nat} {R : Rws} {v w x i j q : Nat} {L : List Nat}
theorem mkD_n : (mkD F pa r R).n = (PL F r 0).length := rfl
theorem mkD_ord : (mkD F pa r R).ord i = (PL F r 0).getD i 0 := rfl
theorem mkD_up : (mkD F pa r R).up i = (PL F r 0).idxOf (pa ((mkD F pa r R).ord i)) := rfl
theorem mkD_en : (mkD F pa r R).en i = i + (PL F r ((mkD F pa r R).ord i)).length := rfl
theorem mkD_kd : (mkD F pa r R).kd i = R.1 ((mkD F pa r R).ord i) := rfl
theorem mkD_nm : (mkD F pa r R).nm i = R.2.1 ((mkD F pa r R).ord i) := rfl
theorem mkD_vl : (mkD F pa r R).vl i = R.2.2.1 ((mkD F pa r R).ord i) := rfl
theorem mkD_dc : (mkD F pa r R).dc i = R.2.2.2 ((mkD F pa r R).ord i) := rfl
theorem PL_nd (h : Frs F pa r) : (PL F r 0).Nodup := PL_nodup h _ 0 (Nat.le_refl _)
theorem gD (l : List Nat) (d : Nat) (h : i < l.length) : l.getD i d = l[i] := by simp [List.getD, h]
theorem getD_inj {l : List Nat} (hl : l.Nodup) (hi : i < l.length) (hj : j < l.length) (e : l.getD i 0 = l.getD j 0) : i = j := by
  rw [gD _ _ hi, gD _ _ hj] at e
  have hp := List.pairwise_iff_getElem.mp hl
  rcases Nat.lt_trichotomy i j with q | q | q
  · exact absurd e (hp i j hi hj q)
  · exact q
  · exact absurd e.symm (hp j i hj hi q)
theorem mkD_inj (h : Frs F pa r) (hi : i < (PL F r 0).length) (hj : j < (PL F r 0).length) (e : (mkD F pa r R).ord i = (mkD F pa r R).ord j) : i = j := getD_inj (PL_nd h) hi hj e
theorem mkD_mem : v ∈ PL F r 0 ↔ ∃ i, i < (PL F r 0).length ∧ (mkD F pa r R).ord i = v := by
  constructor
  · intro hv
    obtain ⟨i, hi, e⟩ := List.getElem_of_mem hv
    exact ⟨i, hi, by rw [mkD_ord, gD _ _ hi]; exact e⟩
  · rintro ⟨i, hi, rfl⟩
    rw [mkD_ord, gD _ _ hi]; exact List.getElem_mem hi
theorem mkD_idx (h : Frs F pa r) (hi : i < (PL F r 0).length) : (PL F r 0).idxOf ((mkD F pa r R).ord i) = i := by
  have hm : (mkD F pa r R).ord i ∈ PL F r 0 := mkD_mem.mpr ⟨i, hi, rfl⟩
  have h1 := List.idxOf_lt_length_iff.mpr hm
  refine getD_inj (PL_nd h) h1 hi ?_
  rw [gD _ _ h1, List.getElem_idxOf h1]; rfl
theorem PL_lt (h : Frs F pa r) (hx : x ∈ PL F r 0) : x < 60 := by
  rcases PL_rank h _ 0 x (Nat.le_refl _) hx with e | ⟨-, e, -⟩
  · omega
  · exact (h.1 _ _ e).2.2.1
theorem mkD_blk (h : Frs F pa r) (hi : i < (PL F r 0).length) : Blk F r (PL F r 0) ((mkD F pa r R).ord i) i ∧ (0 < i → ∃ p, p < i ∧ (mkD F pa r R).up i = p ∧ (mkD F pa r R).ord i ∈ F ((mkD F pa r R).ord p) ∧ pa ((mkD F pa r R).ord i) = (mkD F pa r R).ord p) := by
  have hb : Blk F r (PL F r 0) 0 0 := ⟨[], [], by simp, rfl⟩
  obtain ⟨u, u1, u2, u3⟩ := Blk.in h _ 0 0 (Nat.le_refl _) hb i hi
  rw [Nat.zero_add] at u1 u3
  have hu := u1.at h
  have hu2 : (mkD F pa r R).ord i = u := hu
  rw [hu2]
  refine ⟨u1, fun h0 => ?_⟩
  obtain ⟨p, p1, p2, p3, p4, p5⟩ := u3 h0
  refine ⟨p, p4, ?_, p2, p1⟩
  rw [mkD_up, hu2, p1]
  exact mkD_idx (R := R) h (by omega)
/-- the children's spots -/
theorem mkD_kid (h : Frs F pa r) (hi : i < (PL F r 0).length) {X Y : List Nat} (hF : F ((mkD F pa r R).ord i) = X ++ w :: Y) :
    i + 1 + (X.flatMap (PL F r)).length < (PL F r 0).length ∧ (mkD F pa r R).ord (i + 1 + (X.flatMap (PL F r)).length) = w ∧ (mkD F pa r R).up (i + 1 + (X.flatMap (PL F r)).length) = i := by
  have hb := (mkD_blk (R := R) h hi).1.kid h hF
  have h1 := hb.len h
  have h2 : (mkD F pa r R).ord (i + 1 + (X.flatMap (PL F r)).length) = w := hb.at h
  have h3 := h.1 _ w (by rw [hF]; simp)
  refine ⟨by omega, h2, ?_⟩
  rw [mkD_up, h2, h3.1]
  exact mkD_idx (R := R) h hi
theorem mkD_kid' (h : Frs F pa r) (h0 : 0 < j) (hj : j < (PL F r 0).length) : ∃ X Y, F ((mkD F pa r R).ord ((mkD F pa r R).up j)) = X ++ (mkD F pa r R).ord j :: Y ∧ j = (mkD F pa r R).up j + 1 + (X.flatMap (PL F r)).length := by
  obtain ⟨p, p1, p2, p3, p4⟩ := (mkD_blk (R := R) h hj).2 h0
  rw [p2]
  obtain ⟨X, Y, hF⟩ := List.append_of_mem p3
  obtain ⟨k1, k2, k3⟩ := mkD_kid (R := R) h (show p < (PL F r 0).length by omega) hF
  exact ⟨X, Y, hF, mkD_inj (R := R) h hj k1 k2.symm⟩
theorem mkD_en_kid (h : Frs F pa r) (hi : i < (PL F r 0).length) {X Y : List Nat} (hF : F ((mkD F pa r R).ord i) = X ++ w :: Y) : (mkD F pa r R).en (i + 1 + (X.flatMap (PL F r)).length) = i + 1 + ((X ++ [w]).flatMap (PL F r)).length := by
  obtain ⟨k1, k2, k3⟩ := mkD_kid (R := R) h hi hF
  rw [mkD_en, k2]
  simp [List.flatMap_append, List.length_append]; omega
theorem mkD_en' (h : Frs F pa r) : (mkD F pa r R).en i = i + 1 + ((F ((mkD F pa r R).ord i)).flatMap (PL F r)).length := by
  rw [mkD_en, PL_eq h ((mkD F pa r R).ord i), List.length_cons]; omega
theorem mkD_wf (h : Frs F pa r) (hR : RwsOk F r R) : (mkD F pa r R).wf := by
  obtain ⟨r1, r2, r3, r4, r5, r6⟩ := hR
  have hm : ∀ i, i < (mkD F pa r R).n → (mkD F pa r R).ord i ∈ PL F r 0 := fun i hi => mkD_mem.mpr ⟨i, hi, rfl⟩
  have h0 : (mkD F pa r R).ord 0 = 0 := (show Blk F r (PL F r 0) 0 0 from ⟨[], [], by simp, rfl⟩).at h
  have hlt : ∀ i, i < (mkD F pa r R).n → (mkD F pa r R).ord i < 60 := fun i hi => PL_lt h (hm i hi)
  have hpos : 0 < (mkD F pa r R).n := by rw [mkD_n, PL_eq h]; exact Nat.succ_pos _
  have hbl : ∀ i, i < (mkD F pa r R).n → i < (mkD F pa r R).en i ∧ (mkD F pa r R).en i ≤ (mkD F pa r R).n := fun i hi => by
    have := (mkD_blk (R := R) h hi).1.len h
    rw [mkD_en, mkD_n]; omega
  have hup : ∀ i, 0 < i → i < (mkD F pa r R).n → (mkD F pa r R).up i < i := fun i z hi => by
    obtain ⟨p, p1, p2, -⟩ := (mkD_blk (R := R) h hi).2 z
    omega
  refine ⟨⟨hpos, ?_⟩, hlt, fun i j hi hj e => mkD_inj h hi hj e, h0, hup, hbl, ?_, ?_, fun i hi => r3 _ (hm i hi), ?_, ?_, fun i hi => r4 _ (hm i hi), fun i hi => r5 _ (hm i hi), fun i hi => r6 _ (hm i hi)⟩
  · exact fb_holes 60 _ (fun i => (mkD F pa r R).ord i) hlt (fun i j hij hj e => by
      have := mkD_inj (R := R) h (show i < (PL F r 0).length from Nat.lt_trans hij hj) hj e
      omega)
  · rw [mkD_en, h0, Nat.zero_add]; rfl
  · intro i j hij hj
    have hin : i < (PL F r 0).length := Nat.lt_trans hij hj
    constructor
    · intro hje
      rw [mkD_en] at hje
      obtain ⟨u, u1, u2, u3⟩ := Blk.in h _ _ i (Nat.le_refl _) (mkD_blk (R := R) h hin).1 (j - i) (by omega)
      obtain ⟨p, p1, p2, p3, p4, p5⟩ := u3 (Nat.sub_pos_of_lt hij)
      clear u3
      rw [Nat.add_sub_cancel' (Nat.le_of_lt hij)] at u1 p4
      have hu : (mkD F pa r R).ord j = u := u1.at h
      have : (mkD F pa r R).up j = p := by
        rw [mkD_up, hu, p1]
        exact mkD_idx (R := R) h (show p < (PL F r 0).length from Nat.lt_trans p4 hj)
      rw [this, mkD_en]
      omega
    · rintro ⟨h1, h2⟩
      obtain ⟨X, Y, hF, e⟩ := mkD_kid' (R := R) h (show 0 < j by omega) hj
      have hpl : (mkD F pa r R).up j < (PL F r 0).length := Nat.lt_trans (hup j (by omega) hj) hj
      generalize hp : (mkD F pa r R).up j = p at *
      have hbp := (mkD_blk (R := R) h hpl).1
      rw [mkD_en] at h2
      obtain ⟨u, u1, u2, -⟩ := Blk.in h _ _ i (Nat.le_refl _) (mkD_blk (R := R) h hin).1 (p - i) (by omega)
      rw [show i + (p - i) = p by omega] at u1 u2
      have hu : (mkD F pa r R).ord p = u := u1.at h
      have e3 := mkD_en' (R := R) (i := p) h
      rw [mkD_en, hu] at e3
      rw [hu] at hF
      rw [hF] at e3
      have hl : 0 < (PL F r ((mkD F pa r R).ord j)).length := by rw [PL_eq h]; exact Nat.succ_pos _
      have e4 : ((X ++ (mkD F pa r R).ord j :: Y).flatMap (PL F r)).length = (X.flatMap (PL F r)).length + ((PL F r ((mkD F pa r R).ord j)).length + (Y.flatMap (PL F r)).length) := by
        simp [List.flatMap_append, List.flatMap_cons, List.length_append]
      rw [mkD_en]
      omega
  · rw [mkD_kd, h0]; exact r1
  · intro i z hi
    obtain ⟨p, p1, p2, p3, -⟩ := (mkD_blk (R := R) h hi).2 z
    rw [mkD_kd, p2]
    exact r2 _ _ (hm p (Nat.lt_trans p1 hi)) p3
end MKD
