/-! ===== what hangs on the root ===== -/
def Frs0 (F : Nat → List Nat) (pa : Nat → Nat) : Prop := (∀ v w, w ∈ F v → pa w = v ∧ w < 60 ∧ w ≠ 0) ∧ ∀ v, (F v).Nodup
/-- so many levels below the root -/
def inS (F : Nat → List Nat) : Nat → Nat → Prop
  | 0, v => v = 0
  | k + 1, w => ∃ v, inS F k v ∧ w ∈ F v
def Rch (F : Nat → List Nat) (v : Nat) : Prop := ∃ k, inS F k v
noncomputable def rF (F : Nat → List Nat) (v : Nat) : List Nat := by
  classical
  exact if Rch F v then F v else []
noncomputable def rR (F : Nat → List Nat) (v : Nat) : Nat := by
  classical
  exact if h : Rch F v then 60 - Classical.choose h else 0
section REACH
variable {F : Nat → List Nat} {pa : Nat → Nat} {v w x i j k q : Nat} {R : Rws}
theorem inS_lt (h : Frs0 F pa) : ∀ k v, inS F k v → v < 60
  | 0, v, e => by have e : v = 0 := e; omega
  | k + 1, w, ⟨v, _, e⟩ => (h.1 v w e).2.1
theorem inS_one (h : Frs0 F pa) : ∀ j k v, inS F j v → inS F k v → j = k
  | 0, 0, _, _, _ => rfl
  | 0, k + 1, v, e, ⟨u, _, f⟩ => absurd e (h.1 u v f).2.2
  | j + 1, 0, v, ⟨u, _, f⟩, e => absurd e (h.1 u v f).2.2
  | j + 1, k + 1, v, ⟨u, e, f⟩, ⟨u', e', f'⟩ => by
    have : u = u' := by rw [← (h.1 u v f).1, ← (h.1 u' v f').1]
    subst this
    rw [inS_one h j k u e e']
/-- the way down -/
theorem inS_way : ∀ k v, inS F k v → ∃ f : Nat → Nat, f k = v ∧ ∀ j, j ≤ k → inS F j (f j)
  | 0, v, e => ⟨fun _ => 0, e.symm, fun j hj => by rw [show j = 0 by omega]; exact rfl⟩
  | k + 1, w, ⟨v, e, m⟩ => by
    obtain ⟨f, f1, f2⟩ := inS_way k v e
    refine ⟨fun j => if j = k + 1 then w else f j, if_pos rfl, fun j hj => ?_⟩
    dsimp only
    by_cases q : j = k + 1
    · subst q; rw [if_pos rfl]; exact ⟨v, e, m⟩
    · rw [if_neg q]; exact f2 j (by omega)
theorem inS_dep (h : Frs0 F pa) (hk : inS F k v) : k < 60 := by
  obtain ⟨f, -, f2⟩ := inS_way k v hk
  have := fb_holes 60 (k + 1) f (fun i hi => inS_lt h i _ (f2 i (by omega))) (fun i j hij hj e => by
    have a := f2 i (by omega)
    have b := f2 j (by omega)
    rw [e] at a
    have := inS_one h _ _ _ a b
    omega)
  omega
theorem rF_in (h : Rch F v) : rF F v = F v := if_pos h
theorem rF_out (h : ¬ Rch F v) : rF F v = [] := if_neg h
theorem rF_mem (h : w ∈ rF F v) : Rch F v ∧ w ∈ F v := by
  by_cases q : Rch F v
  · rw [rF_in q] at h; exact ⟨q, h⟩
  · rw [rF_out q] at h; cases h
theorem rR_at (h : Frs0 F pa) (hk : inS F k v) : rR F v = 60 - k := by
  have hr : Rch F v := ⟨k, hk⟩
  unfold rR
  rw [dif_pos hr, inS_one h _ _ _ (Classical.choose_spec hr) hk]
theorem rF_frs (h : Frs0 F pa) : Frs (rF F) pa (rR F) := by
  refine ⟨fun v w hw => ?_, fun v => ?_⟩
  · obtain ⟨⟨k, hk⟩, hw⟩ := rF_mem hw
    have h1 := h.1 v w hw
    have hk1 : inS F (k + 1) w := ⟨v, hk, hw⟩
    have := inS_dep h hk1
    refine ⟨h1.1, ?_, h1.2.1, h1.2.2⟩
    rw [rR_at h hk, rR_at h hk1]; omega
  · by_cases q : Rch F v
    · rw [rF_in q]; exact h.2 v
    · rw [rF_out q]; exact List.nodup_nil
/-- the document of lists -/
noncomputable def mkF (F : Nat → List Nat) (pa : Nat → Nat) (R : Rws) : Doc := mkD (rF F) pa (rR F) R
theorem rch_iff (h : Frs0 F pa) : v ∈ PL (rF F) (rR F) 0 ↔ Rch F v := by
  have hf := rF_frs h
  constructor
  · intro hv
    have key : ∀ n v, v ∈ PL (rF F) (rR F) 0 → rR F 0 ≤ rR F v + n → Rch F v := by
      intro n
      induction n with
      | zero =>
        intro v hv hr
        rcases PL_rank hf _ 0 v (Nat.le_refl _) hv with e | ⟨e, -⟩
        · exact ⟨0, e⟩
        · omega
      | succ n ih =>
        intro v hv hr
        rcases PL_rank hf _ 0 v (Nat.le_refl _) hv with e | ⟨e, e2, e3⟩
        · exact ⟨0, e⟩
        · have := (hf.1 _ _ e2).2.1
          obtain ⟨k, hk⟩ := ih (pa v) e3 (by omega)
          exact ⟨k + 1, pa v, hk, (rF_mem e2).2⟩
    exact key _ v hv (Nat.le_add_left _ _)
  · rintro ⟨k, hk⟩
    induction k generalizing v with
    | zero => have hk : v = 0 := hk; subst hk; exact PL_self hf 0
    | succ k ih =>
      obtain ⟨u, hu, hm⟩ := hk
      obtain ⟨i, hi, e⟩ := (mkD_mem (pa := pa) (R := (fun _ => 0, fun _ => 0, fun _ => 0, fun _ => 0))).mp (ih hu)
      have hm2 : v ∈ rF F u := by rw [rF_in ⟨k, hu⟩]; exact hm
      rw [← e] at hm2
      obtain ⟨X, Y, hF⟩ := List.append_of_mem hm2
      obtain ⟨k1, k2, -⟩ := mkD_kid hf hi hF
      exact mkD_mem.mpr ⟨_, k1, k2⟩
theorem rch_0 : Rch F 0 := ⟨0, rfl⟩
theorem rch_kid (h : Rch F v) (hw : w ∈ F v) : Rch F w := by
  obtain ⟨k, hk⟩ := h
  exact ⟨k + 1, v, hk, hw⟩
theorem rch_up (h : Frs0 F pa) (hr : Rch F v) (h0 : v ≠ 0) : v ∈ F (pa v) ∧ Rch F (pa v) := by
  obtain ⟨k, hk⟩ := hr
  cases k with
  | zero => exact absurd hk h0
  | succ k =>
    obtain ⟨u, hu, hm⟩ := hk
    have := (h.1 u v hm).1
    rw [this]; exact ⟨hm, k, hu⟩
/-- rows that speak well of a list's nodes -/
def RwsF (F : Nat → List Nat) (R : Rws) : Prop :=
  R.1 0 = 0 ∧ (∀ v w, Rch F v → w ∈ F v → R.1 v = 0) ∧ (∀ v, Rch F v → R.1 v = 0 ∨ R.1 v = 1 ∨ R.1 v = 2) ∧
  (∀ v, Rch F v → (R.1 v = 1 ∧ R.2.1 v = -1) ∨ (R.1 v ≠ 1 ∧ ∃ k, k < 8 ∧ R.2.1 v = nI k)) ∧
  (∀ v, Rch F v → (R.1 v = 0 ∧ R.2.2.1 v = -1) ∨ (R.1 v ≠ 0 ∧ ∃ k, k < 1000 ∧ R.2.2.1 v = nI k)) ∧
  (∀ v, Rch F v → R.2.2.2 v = -1 ∨ (R.1 v = 0 ∧ ∃ k, k < 4 ∧ R.2.2.2 v = nI k))
theorem mkF_wf (h : Frs0 F pa) (hR : RwsF F R) : (mkF F pa R).wf := by
  obtain ⟨r1, r2, r3, r4, r5, r6⟩ := hR
  exact mkD_wf (rF_frs h) ⟨r1, fun v w hv hw => r2 v w ((rch_iff h).mp hv) (rF_mem hw).2, fun v hv => r3 v ((rch_iff h).mp hv), fun v hv => r4 v ((rch_iff h).mp hv), fun v hv => r5 v ((rch_iff h).mp hv), fun v hv => r6 v ((rch_iff h).mp hv)⟩
theorem mkF_mem (h : Frs0 F pa) : Rch F v ↔ ∃ i, i < (mkF F pa R).n ∧ (mkF F pa R).ord i = v := by
  rw [← rch_iff h]; exact mkD_mem
theorem mkF_rch (h : Frs0 F pa) (hi : i < (mkF F pa R).n) : Rch F ((mkF F pa R).ord i) := (mkF_mem h).mpr ⟨i, hi, rfl⟩
/-- the lists' lengths, laid in preorder -/
noncomputable def szF (F : Nat → List Nat) (X : List Nat) : Nat := (X.flatMap (PL (rF F) (rR F))).length
theorem szF_app (X Y : List Nat) : szF F (X ++ Y) = szF F X + szF F Y := by unfold szF; rw [List.flatMap_append, List.length_append]
theorem szF_one (h : Frs0 F pa) : 0 < szF F [w] := by
  unfold szF
  rw [List.flatMap_cons, List.flatMap_nil, List.append_nil, PL_eq (rF_frs h)]
  exact Nat.succ_pos _
theorem mkF_kid (h : Frs0 F pa) (hi : i < (mkF F pa R).n) {X Y : List Nat} (hF : F ((mkF F pa R).ord i) = X ++ w :: Y) :
    i + 1 + szF F X < (mkF F pa R).n ∧ (mkF F pa R).ord (i + 1 + szF F X) = w ∧ (mkF F pa R).up (i + 1 + szF F X) = i ∧ (mkF F pa R).en (i + 1 + szF F X) = i + 1 + szF F (X ++ [w]) := by
  have hF' : rF F ((mkF F pa R).ord i) = X ++ w :: Y := by rw [rF_in (mkF_rch h hi)]; exact hF
  obtain ⟨a, b, d⟩ := mkD_kid (R := R) (rF_frs h) hi hF'
  exact ⟨a, b, d, mkD_en_kid (R := R) (rF_frs h) hi hF'⟩
theorem mkF_kid' (h : Frs0 F pa) (h0 : 0 < j) (hj : j < (mkF F pa R).n) : (mkF F pa R).up j < j ∧ ∃ X Y, F ((mkF F pa R).ord ((mkF F pa R).up j)) = X ++ (mkF F pa R).ord j :: Y ∧ j = (mkF F pa R).up j + 1 + szF F X := by
  obtain ⟨p, p1, p2, -⟩ := (mkD_blk (R := R) (rF_frs h) hj).2 h0
  have p2 : (mkF F pa R).up j = p := p2
  refine ⟨by omega, ?_⟩
  obtain ⟨X, Y, e, e2⟩ := mkD_kid' (R := R) (rF_frs h) h0 hj
  refine ⟨X, Y, ?_, e2⟩
  have := rF_in (mkF_rch (R := R) h (show (mkF F pa R).up j < (mkF F pa R).n by omega))
  rw [← this]; exact e
theorem mkF_en (h : Frs0 F pa) (hi : i < (mkF F pa R).n) : (mkF F pa R).en i = i + 1 + szF F (F ((mkF F pa R).ord i)) := by
  have := mkD_en' (R := R) (i := i) (rF_frs h)
  rw [show rF F ((mkD (rF F) pa (rR F) R).ord i) = F ((mkF F pa R).ord i) from rF_in (mkF_rch h hi)] at this
  exact this
theorem mkF_0 (h : Frs0 F pa) : (mkF F pa R).ord 0 = 0 ∧ 0 < (mkF F pa R).n := by
  have hf := rF_frs h
  constructor
  · exact (show Blk (rF F) (rR F) (PL (rF F) (rR F) 0) 0 0 from ⟨[], [], by simp, rfl⟩).at hf
  · show 0 < (PL (rF F) (rR F) 0).length
    rw [PL_eq hf]; exact Nat.succ_pos _
theorem mkF_kd : (mkF F pa R).kd i = R.1 ((mkF F pa R).ord i) := rfl
theorem mkF_nm : (mkF F pa R).nm i = R.2.1 ((mkF F pa R).ord i) := rfl
theorem mkF_vl : (mkF F pa R).vl i = R.2.2.1 ((mkF F pa R).ord i) := rfl
theorem mkF_dc : (mkF F pa R).dc i = R.2.2.2 ((mkF F pa R).ord i) := rfl
theorem mkF_inj (h : Frs0 F pa) (hi : i < (mkF F pa R).n) (hj : j < (mkF F pa R).n) (e : (mkF F pa R).ord i = (mkF F pa R).ord j) : i = j := mkD_inj (R := R) (rF_frs h) hi hj e
end REACH
