/-! ===== a document out of lists of children ===== -/
/-- the nodes below a node with it, in order; so many levels -/
def pl (F : Nat → List Nat) : Nat → Nat → List Nat
  | 0, v => [v]
  | f + 1, v => v :: (F v).flatMap (pl F f)
/-- lists of children that make a forest: parents, heights -/
def Frs (F : Nat → List Nat) (pa r : Nat → Nat) : Prop := (∀ v w, w ∈ F v → pa w = v ∧ r w < r v ∧ w < 60 ∧ w ≠ 0) ∧ ∀ v, (F v).Nodup
def PL (F : Nat → List Nat) (r : Nat → Nat) (v : Nat) : List Nat := pl F (r v) v
section FRS
variable {F : Nat → List Nat} {pa r : Nat → Nat} {v w x i j q : Nat} {L : List Nat}
theorem pl_st (h : Frs F pa r) : ∀ f g v, r v ≤ f → r v ≤ g → pl F f v = pl F g v := by
  have nil : ∀ v, r v = 0 → F v = [] := fun v hv => by
    cases e : F v with
    | nil => rfl
    | cons a l => have := (h.1 v a (by rw [e]; exact List.mem_cons_self)).2.1; omega
  intro f
  induction f with
  | zero =>
    intro g v h1 _
    cases g with
    | zero => rfl
    | succ g => show [v] = v :: (F v).flatMap (pl F g); rw [nil v (by omega)]; rfl
  | succ f ih =>
    intro g v h1 h2
    cases g with
    | zero => show v :: (F v).flatMap (pl F f) = [v]; rw [nil v (by omega)]; rfl
    | succ g =>
      show v :: (F v).flatMap (pl F f) = v :: (F v).flatMap (pl F g)
      congr 1
      rw [List.flatMap_def, List.flatMap_def]
      congr 1
      refine List.map_congr_left fun w hw => ?_
      have := (h.1 v w hw).2.1
      exact ih g w (by omega) (by omega)
theorem PL_eq (h : Frs F pa r) (v : Nat) : PL F r v = v :: (F v).flatMap (PL F r) := by
  have e : PL F r v = pl F (r v + 1) v := pl_st h _ _ v (Nat.le_refl _) (Nat.le_succ _)
  rw [e]
  show v :: (F v).flatMap (pl F (r v)) = _
  congr 1
  rw [List.flatMap_def, List.flatMap_def]
  congr 1
  refine List.map_congr_left fun w hw => ?_
  have := (h.1 v w hw).2.1
  exact pl_st h _ _ w (by omega) (Nat.le_refl _)
theorem PL_self (h : Frs F pa r) (v : Nat) : v ∈ PL F r v := by rw [PL_eq h]; exact List.mem_cons_self
theorem PL_rank (h : Frs F pa r) : ∀ n v x, r v ≤ n → x ∈ PL F r v → x = v ∨ (r x < r v ∧ x ∈ F (pa x) ∧ pa x ∈ PL F r v) := by
  intro n
  induction n with
  | zero =>
    intro v x hv hx
    rw [PL_eq h] at hx
    rcases List.mem_cons.mp hx with e | e
    · exact .inl e
    · obtain ⟨w, hw, -⟩ := List.mem_flatMap.mp e
      have := (h.1 v w hw).2.1; omega
  | succ n ih =>
    intro v x hv hx
    have hx0 := hx
    rw [PL_eq h] at hx
    rcases List.mem_cons.mp hx with e | e
    · exact .inl e
    · right
      obtain ⟨w, hw, hxw⟩ := List.mem_flatMap.mp e
      have hwv := h.1 v w hw
      rcases ih w x (by omega) hxw with e | ⟨a, b, d⟩
      · subst e
        refine ⟨hwv.2.1, by rw [hwv.1]; exact hw, by rw [hwv.1]; exact PL_self h v⟩
      · refine ⟨by omega, b, ?_⟩
        rw [PL_eq h v]
        exact List.mem_cons_of_mem _ (List.mem_flatMap.mpr ⟨w, hw, d⟩)
theorem PL_dis (h : Frs F pa r) {v w u : Nat} (hw : w ∈ F v) (hu : u ∈ F v) (hne : w ≠ u) : ∀ n x, r v ≤ r x + n → x ∈ PL F r w → x ∈ PL F r u → False := by
  have h1 := h.1 v w hw
  have h2 := h.1 v u hu
  intro n
  induction n with
  | zero =>
    intro x hx a b
    rcases PL_rank h _ w x (Nat.le_refl _) a with e | ⟨e, -⟩
    · subst e; omega
    · omega
  | succ n ih =>
    intro x hx a b
    rcases PL_rank h _ w x (Nat.le_refl _) a with e | ⟨e1, e2, e3⟩
    · subst e
      rcases PL_rank h _ u x (Nat.le_refl _) b with e | ⟨-, -, e3⟩
      · exact hne e
      · rw [h1.1] at e3
        rcases PL_rank h _ u v (Nat.le_refl _) e3 with e | ⟨e, -⟩
        · subst e; omega
        · omega
    · rcases PL_rank h _ u x (Nat.le_refl _) b with e | ⟨-, -, f3⟩
      · subst e
        rw [h2.1] at e3
        rcases PL_rank h _ w v (Nat.le_refl _) e3 with e | ⟨e, -⟩
        · subst e; omega
        · omega
      · have := (h.1 (pa x) x e2).2.1
        exact ih (pa x) (by omega) e3 f3
theorem PL_nodup (h : Frs F pa r) : ∀ n v, r v ≤ n → (PL F r v).Nodup := by
  intro n
  induction n with
  | zero =>
    intro v hv
    have nil : F v = [] := by
      cases e : F v with
      | nil => rfl
      | cons a l => have := (h.1 v a (by rw [e]; exact List.mem_cons_self)).2.1; omega
    rw [PL_eq h, nil]
    simp
  | succ n ih =>
    intro v hv
    rw [PL_eq h, List.nodup_cons]
    refine ⟨fun hx => ?_, ?_⟩
    · obtain ⟨w, hw, hxw⟩ := List.mem_flatMap.mp hx
      have := (h.1 v w hw).2.1
      rcases PL_rank h _ w v (Nat.le_refl _) hxw with e | ⟨e, -⟩
      · subst e; omega
      · omega
    · unfold List.Nodup
      rw [List.pairwise_flatMap]
      refine ⟨fun w hw => ih w (by have := (h.1 v w hw).2.1; omega), ?_⟩
      have hnd := h.2 v
      unfold List.Nodup at hnd
      refine List.Pairwise.imp_of_mem (fun {a b} ha hb hab x hx y hy e => ?_) hnd
      subst e
      exact PL_dis h ha hb hab (r v) x (by omega) hx hy
/-- a node's block stands at a place of the list -/
def Blk (F : Nat → List Nat) (r : Nat → Nat) (L : List Nat) (v i : Nat) : Prop := ∃ A B, L = A ++ (PL F r v ++ B) ∧ A.length = i
theorem Blk.len (h : Frs F pa r) (hb : Blk F r L v i) : i + (PL F r v).length ≤ L.length ∧ 0 < (PL F r v).length := by
  obtain ⟨A, B, rfl, rfl⟩ := hb
  rw [PL_eq h]
  simp [List.length_append]
theorem Blk.at (h : Frs F pa r) (hb : Blk F r L v i) : L.getD i 0 = v := by
  obtain ⟨A, B, rfl, rfl⟩ := hb
  rw [PL_eq h]
  simp [List.getD]
theorem Blk.kid (h : Frs F pa r) (hb : Blk F r L v i) {X Y : List Nat} (hF : F v = X ++ w :: Y) : Blk F r L w (i + 1 + (X.flatMap (PL F r)).length) := by
  obtain ⟨A, B, rfl, rfl⟩ := hb
  refine ⟨A ++ (v :: X.flatMap (PL F r)), Y.flatMap (PL F r) ++ B, ?_, by simp [List.length_append]; omega⟩
  rw [PL_eq h v, hF]
  simp [List.flatMap_append, List.flatMap_cons, List.append_assoc]
/-- where in lists that stand one behind the other -/
theorem fm_split (f : Nat → List Nat) : ∀ (l : List Nat) (k : Nat), k < (l.flatMap f).length → ∃ X w Y, l = X ++ w :: Y ∧ (X.flatMap f).length ≤ k ∧ k < (X.flatMap f).length + (f w).length
  | [], k, h => by simp at h
  | a :: l, k, h => by
    rw [List.flatMap_cons, List.length_append] at h
    by_cases q : k < (f a).length
    · exact ⟨[], a, l, rfl, Nat.zero_le _, by simpa using q⟩
    · obtain ⟨X, w, Y, e, h1, h2⟩ := fm_split f l (k - (f a).length) (by omega)
      refine ⟨a :: X, w, Y, by rw [e]; rfl, ?_, ?_⟩ <;> rw [List.flatMap_cons, List.length_append] <;> omega
/-- below a block each place is the block of a node -/
theorem Blk.in (h : Frs F pa r) : ∀ n v i, r v ≤ n → Blk F r L v i → ∀ k, k < (PL F r v).length → ∃ u, Blk F r L u (i + k) ∧ i + k + (PL F r u).length ≤ i + (PL F r v).length ∧ (0 < k → ∃ p, pa u = L.getD p 0 ∧ u ∈ F (L.getD p 0) ∧ i ≤ p ∧ p < i + k ∧ Blk F r L (L.getD p 0) p) := by
  intro n
  induction n with
  | zero =>
    intro v i hv hb k hk
    have nil : F v = [] := by
      cases e : F v with
      | nil => rfl
      | cons a l => have := (h.1 v a (by rw [e]; exact List.mem_cons_self)).2.1; omega
    rw [PL_eq h, nil] at hk
    have : k = 0 := by simp at hk; exact hk
    subst this
    exact ⟨v, hb, Nat.le_refl _, fun w => by omega⟩
  | succ n ih =>
    intro v i hv hb k hk
    rcases Nat.eq_zero_or_pos k with e | e
    · subst e; exact ⟨v, hb, Nat.le_refl _, fun w => by omega⟩
    · have hlen : (PL F r v).length = ((F v).flatMap (PL F r)).length + 1 := by rw [PL_eq h v]; rfl
      obtain ⟨X, w, Y, hF, h1, h2⟩ := fm_split (PL F r) (F v) (k - 1) (by omega)
      have hw : w ∈ F v := by rw [hF]; simp
      have hwv := h.1 v w hw
      have hbw := hb.kid h hF
      have hq : k - 1 - (X.flatMap (PL F r)).length < (PL F r w).length := Nat.sub_lt_left_of_lt_add h1 h2
      obtain ⟨u, u1, u2, u3⟩ := ih w _ (by omega) hbw (k - 1 - (X.flatMap (PL F r)).length) hq
      have e1 : i + 1 + (X.flatMap (PL F r)).length + (k - 1 - (X.flatMap (PL F r)).length) = i + k := by clear u1 u2 u3; revert h1 h2; generalize (X.flatMap (PL F r)).length = Q; intro h1 h2; omega
      rw [e1] at u1 u2 u3
      have hfull : ((F v).flatMap (PL F r)).length = (X.flatMap (PL F r)).length + ((PL F r w).length + (Y.flatMap (PL F r)).length) := by
        rw [hF]; simp [List.flatMap_append, List.flatMap_cons]
      refine ⟨u, u1, by omega, fun _ => ?_⟩
      rcases Nat.eq_zero_or_pos (k - 1 - (X.flatMap (PL F r)).length) with z | z
      · have hat := u1.at h
        have hat2 := hbw.at h
        rw [show i + 1 + (X.flatMap (PL F r)).length = i + k by omega, hat] at hat2
        subst hat2
        have hv2 := hb.at h
        exact ⟨i, by rw [hv2]; exact hwv.1, by rw [hv2]; exact hw, Nat.le_refl _, by omega, by rw [hv2]; exact hb⟩
      · obtain ⟨p, p1, p2, p3, p4, p5⟩ := u3 z
        exact ⟨p, p1, p2, by omega, p4, p5⟩
end FRS
