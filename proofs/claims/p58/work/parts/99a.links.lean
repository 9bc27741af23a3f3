/-! ===== the links of lists of children ===== -/
def hdI : List Nat → Int32
  | [] => -1
  | a :: _ => nI a
/-- the tree's links at b are the lists' -/
def Lnk (c : tc_C) (b : Nat) (F : Nat → List Nat) : Prop :=
  (∀ v w, w ∈ F v → c.1 (b + 31) w = nI v) ∧ (∀ w, w < 60 → (∀ v, w ∉ F v) → c.1 (b + 31) w = -1) ∧
  (∀ v, v < 60 → c.1 (b + 35) v = hdI (F v)) ∧ (∀ v, v < 60 → c.1 (b + 39) v = hdI (F v).reverse) ∧
  (∀ v X w Y, F v = X ++ w :: Y → c.1 (b + 37) w = hdI Y) ∧ (∀ w, w < 60 → (∀ v, w ∉ F v) → c.1 (b + 37) w = -1)
/-- but links nothing has changed -/
def Lf (b : Nat) (c c' : tc_C) : Prop := (∀ a, a ≠ b + 31 → a ≠ b + 35 → a ≠ b + 37 → a ≠ b + 39 → c'.1 a = c.1 a) ∧ c'.2 = c.2
/-- one more at the end of a list -/
def snF (F : Nat → List Nat) (e v : Nat) : Nat → List Nat := fun u => if u = e then F e ++ [v] else F u
section LNK
variable {S : tq_H} {c c' c'' : tc_C} {b m i j e v : Nat} {F G : Nat → List Nat} {pa : Nat → Nat} {R : Rws}
theorem Lf.refl (c : tc_C) : Lf b c c := ⟨fun _ _ _ _ _ => rfl, rfl⟩
theorem Lf.trans (h : Lf b c c') (g : Lf b c' c'') : Lf b c c'' := ⟨fun a z1 z2 z3 z4 => (g.1 a z1 z2 z3 z4).trans (h.1 a z1 z2 z3 z4), g.2.trans h.2⟩
theorem rev_cat (l : List Nat) : l = [] ∨ ∃ l' t, l = l' ++ [t] := by
  cases h : l.reverse with
  | nil => left; simpa using h
  | cons t r => right; exact ⟨r.reverse, t, by have := congrArg List.reverse h; simpa using this⟩
theorem s_X8_append (hT : tc_Tree S b) (hL : Lnk c b F) (hF : (∀ v w, w ∈ F v → v < 60 ∧ w < 60) ∧ ∀ v, (F v).Nodup) (he : e < 60) (hv : v < 60) (hn : ∀ u, v ∉ F u) :
    ∃ c', f_X8_append b (nI e) (nI v) (tc_mk S c) = some (tc_mk S c') ∧ Lnk c' b (snF F e v) ∧ Lf b c c' := by
  obtain ⟨l1, l2, l3, l4, l5, l6⟩ := hL
  have own : ∀ u u' w, w ∈ F u → w ∈ F u' → u = u' := fun u u' w h1 h2 => by
    have a := l1 u w h1
    rw [l1 u' w h2] at a
    exact ((nI_eq (by have := (hF.1 _ _ h2).1; omega) (by have := (hF.1 _ _ h1).1; omega)).mp a).symm
  have mem : ∀ u w, w ∈ snF F e v u ↔ w ∈ F u ∨ (u = e ∧ w = v) := fun u w => by
    unfold snF
    by_cases q : u = e
    · subst q; rw [if_pos rfl]; simp
    · rw [if_neg q]; simp [q]
  have par : ∀ (f : Nat → Int32), f = upd (c.1 (b + 31)) v (nI e) → (∀ u w, w ∈ snF F e v u → f w = nI u) ∧ ∀ w, w < 60 → (∀ u, w ∉ snF F e v u) → f w = -1 := fun f hf => by
    subst hf
    constructor
    · intro u w hw
      unfold upd
      rcases (mem u w).mp hw with h | ⟨rfl, rfl⟩
      · rw [if_neg (fun q : w = v => hn u (q ▸ h))]; exact l1 u w h
      · rw [if_pos rfl]
    · intro w hw h
      unfold upd
      rw [if_neg (fun q => h e ((mem e w).mpr (.inr ⟨rfl, q⟩)))]
      exact l2 w hw (fun u z => h u ((mem u w).mpr (.inl z)))
  have tls : ∀ u, u < 60 → upd (c.1 (b + 39)) e (nI v) u = hdI (snF F e v u).reverse := fun u hu => by
    unfold upd snF
    by_cases q : u = e
    · rw [if_pos q, if_pos q, List.reverse_append]; rfl
    · rw [if_neg q, if_neg q]; exact l4 u hu
  have tail := l4 e he
  rcases rev_cat (F e) with q | ⟨l', t, q⟩
  · rw [q] at tail
    have tail : c.1 (b + 39) e = -1 := tail
    refine ⟨tc_I (tc_I (tc_I c (b + 31) (upd (c.1 (b + 31)) v (nI e))) (b + 35) (upd (c.1 (b + 35)) e (nI v))) (b + 39) (upd (c.1 (b + 39)) e (nI v)), ?_, ⟨?_, ?_, ?_, ?_, ?_, ?_⟩, ⟨fun a h1 h2 h3 h4 => ?_, rfl⟩⟩
    · simp (maxSteps := 3000000) (disch := omega) only [Option.bind_some, tc_bs, tq_let, tc_I1, tc_I2, tc_J1, tc_J2, tc_J3, tc_F1, tc_F2, tc_F3, tc_F4, tc_G1, tc_G2, tc_G3, tc_G4, tc_G5, tc_us, tc_un, s_one, s_holds, s_J13_bitCount, bz_bI, f_X8_append, hT.f, rs_in _ _ hv (show 60 < 2 ^ 31 by decide), rs_in _ _ he (show 60 < 2 ^ 31 by decide), rg_in _ he (show 60 < 2 ^ 31 by decide), tail, if_true]
    · simp (maxSteps := 3000000) (disch := omega) only [Option.bind_some, tc_bs, tq_let, tc_I1, tc_I2, tc_J1, tc_J2, tc_J3, tc_F1, tc_F2, tc_F3, tc_F4, tc_G1, tc_G2, tc_G3, tc_G4, tc_G5, tc_us, tc_un, s_one, s_holds, s_J13_bitCount, bz_bI, if_true]; exact (par _ rfl).1
    · simp (maxSteps := 3000000) (disch := omega) only [Option.bind_some, tc_bs, tq_let, tc_I1, tc_I2, tc_J1, tc_J2, tc_J3, tc_F1, tc_F2, tc_F3, tc_F4, tc_G1, tc_G2, tc_G3, tc_G4, tc_G5, tc_us, tc_un, s_one, s_holds, s_J13_bitCount, bz_bI, if_true]; exact (par _ rfl).2
    · simp (maxSteps := 3000000) (disch := omega) only [Option.bind_some, tc_bs, tq_let, tc_I1, tc_I2, tc_J1, tc_J2, tc_J3, tc_F1, tc_F2, tc_F3, tc_F4, tc_G1, tc_G2, tc_G3, tc_G4, tc_G5, tc_us, tc_un, s_one, s_holds, s_J13_bitCount, bz_bI, if_true]
      intro u hu
      unfold upd snF
      by_cases z : u = e
      · rw [if_pos z, if_pos z, q]; rfl
      · rw [if_neg z, if_neg z]; exact l3 u hu
    · simp (maxSteps := 3000000) (disch := omega) only [Option.bind_some, tc_bs, tq_let, tc_I1, tc_I2, tc_J1, tc_J2, tc_J3, tc_F1, tc_F2, tc_F3, tc_F4, tc_G1, tc_G2, tc_G3, tc_G4, tc_G5, tc_us, tc_un, s_one, s_holds, s_J13_bitCount, bz_bI, if_true]; exact tls
    · simp (maxSteps := 3000000) (disch := omega) only [Option.bind_some, tc_bs, tq_let, tc_I1, tc_I2, tc_J1, tc_J2, tc_J3, tc_F1, tc_F2, tc_F3, tc_F4, tc_G1, tc_G2, tc_G3, tc_G4, tc_G5, tc_us, tc_un, s_one, s_holds, s_J13_bitCount, bz_bI, if_true]
      intro u X w Y hX
      unfold snF at hX
      by_cases z : u = e
      · rw [if_pos z, q] at hX
        cases X with
        | nil => simp at hX; obtain ⟨rfl, rfl⟩ := hX; exact l6 v hv hn
        | cons a X => simp at hX
      · rw [if_neg z] at hX; exact l5 u X w Y hX
    · simp (maxSteps := 3000000) (disch := omega) only [Option.bind_some, tc_bs, tq_let, tc_I1, tc_I2, tc_J1, tc_J2, tc_J3, tc_F1, tc_F2, tc_F3, tc_F4, tc_G1, tc_G2, tc_G3, tc_G4, tc_G5, tc_us, tc_un, s_one, s_holds, s_J13_bitCount, bz_bI, if_true]
      intro w hw h
      exact l6 w hw (fun u z => h u ((mem u w).mpr (.inl z)))
    · simp (maxSteps := 3000000) (disch := omega) only [Option.bind_some, tc_bs, tq_let, tc_I1, tc_I2, tc_J1, tc_J2, tc_J3, tc_F1, tc_F2, tc_F3, tc_F4, tc_G1, tc_G2, tc_G3, tc_G4, tc_G5, tc_us, tc_un, s_one, s_holds, s_J13_bitCount, bz_bI, if_true]
  · rw [q] at tail
    have tail : c.1 (b + 39) e = nI t := by rw [tail, List.reverse_append]; rfl
    have ht : t ∈ F e := by rw [q]; simp
    have ht60 := (hF.1 e t ht).2
    have hne : ¬ nI t = (-1 : Int32) := nI_nm1 (by omega)
    have htv : t ≠ v := fun z => hn e (z ▸ ht)
    refine ⟨tc_I (tc_I (tc_I c (b + 31) (upd (c.1 (b + 31)) v (nI e))) (b + 37) (upd (c.1 (b + 37)) t (nI v))) (b + 39) (upd (c.1 (b + 39)) e (nI v)), ?_, ⟨?_, ?_, ?_, ?_, ?_, ?_⟩, ⟨fun a h1 h2 h3 h4 => ?_, rfl⟩⟩
    · simp (maxSteps := 3000000) (disch := omega) only [Option.bind_some, tc_bs, tq_let, tc_I1, tc_I2, tc_J1, tc_J2, tc_J3, tc_F1, tc_F2, tc_F3, tc_F4, tc_G1, tc_G2, tc_G3, tc_G4, tc_G5, tc_us, tc_un, s_one, s_holds, s_J13_bitCount, bz_bI, f_X8_append, hT.f, rs_in _ _ hv (show 60 < 2 ^ 31 by decide), rs_in _ _ he (show 60 < 2 ^ 31 by decide), rs_in _ _ ht60 (show 60 < 2 ^ 31 by decide), rg_in _ he (show 60 < 2 ^ 31 by decide), tail, hne, if_false]
    · simp (maxSteps := 3000000) (disch := omega) only [Option.bind_some, tc_bs, tq_let, tc_I1, tc_I2, tc_J1, tc_J2, tc_J3, tc_F1, tc_F2, tc_F3, tc_F4, tc_G1, tc_G2, tc_G3, tc_G4, tc_G5, tc_us, tc_un, s_one, s_holds, s_J13_bitCount, bz_bI, if_true]; exact (par _ rfl).1
    · simp (maxSteps := 3000000) (disch := omega) only [Option.bind_some, tc_bs, tq_let, tc_I1, tc_I2, tc_J1, tc_J2, tc_J3, tc_F1, tc_F2, tc_F3, tc_F4, tc_G1, tc_G2, tc_G3, tc_G4, tc_G5, tc_us, tc_un, s_one, s_holds, s_J13_bitCount, bz_bI, if_true]; exact (par _ rfl).2
    · simp (maxSteps := 3000000) (disch := omega) only [Option.bind_some, tc_bs, tq_let, tc_I1, tc_I2, tc_J1, tc_J2, tc_J3, tc_F1, tc_F2, tc_F3, tc_F4, tc_G1, tc_G2, tc_G3, tc_G4, tc_G5, tc_us, tc_un, s_one, s_holds, s_J13_bitCount, bz_bI, if_true]
      intro u hu
      unfold snF
      by_cases z : u = e
      · rw [if_pos z, l3 u hu, z, q]
        cases l' <;> rfl
      · rw [if_neg z]; exact l3 u hu
    · simp (maxSteps := 3000000) (disch := omega) only [Option.bind_some, tc_bs, tq_let, tc_I1, tc_I2, tc_J1, tc_J2, tc_J3, tc_F1, tc_F2, tc_F3, tc_F4, tc_G1, tc_G2, tc_G3, tc_G4, tc_G5, tc_us, tc_un, s_one, s_holds, s_J13_bitCount, bz_bI, if_true]; exact tls
    · simp (maxSteps := 3000000) (disch := omega) only [Option.bind_some, tc_bs, tq_let, tc_I1, tc_I2, tc_J1, tc_J2, tc_J3, tc_F1, tc_F2, tc_F3, tc_F4, tc_G1, tc_G2, tc_G3, tc_G4, tc_G5, tc_us, tc_un, s_one, s_holds, s_J13_bitCount, bz_bI, if_true]
      intro u X w Y hX
      unfold snF at hX
      unfold upd
      by_cases z : u = e
      · rw [if_pos z] at hX
        rcases rev_cat Y with y | ⟨Y', s, y⟩
        · subst y
          have h2 := List.append_inj_right' hX rfl
          have : v = w := by simpa using h2
          subst this
          rw [if_neg (fun q => htv q.symm)]
          exact l6 v hv hn
        · subst y
          have h2 : F e ++ [v] = (X ++ w :: Y') ++ [s] := by rw [hX]; simp
          have h3 := List.append_inj_left' h2 rfl
          have h4 := List.append_inj_right' h2 rfl
          have : v = s := by simpa using h4
          subst this
          by_cases wt : w = t
          · rw [if_pos wt]
            -- the last one stands only once
            have hnd := hF.2 e
            have : Y' = [] := by
              rcases rev_cat Y' with y | ⟨Y2, s2, y⟩
              · exact y
              · exfalso
                subst y
                have h5 : l' ++ [t] = (X ++ w :: Y2) ++ [s2] := by rw [← q, h3]; simp
                have h6 := List.append_inj_right' h5 rfl
                have h6 : t = s2 := by simpa using h6
                rw [h3, wt, h6] at hnd
                simp [List.nodup_append, List.nodup_cons] at hnd
            rw [this]; rfl
          · rw [if_neg wt, l5 e X w Y' h3]
            cases Y' with
            | cons a r => rfl
            | nil =>
              exfalso
              rw [q] at h3
              have := List.append_inj_right' (s₁ := l') (t₁ := [t]) (s₂ := X) (t₂ := [w]) h3 rfl
              simp at this
              exact wt this.symm
      · rw [if_neg z] at hX
        have hw : w ∈ F u := by rw [hX]; simp
        rw [if_neg (fun q : w = t => z (own u e t (q ▸ hw) ht))]
        exact l5 u X w Y hX
    · simp (maxSteps := 3000000) (disch := omega) only [Option.bind_some, tc_bs, tq_let, tc_I1, tc_I2, tc_J1, tc_J2, tc_J3, tc_F1, tc_F2, tc_F3, tc_F4, tc_G1, tc_G2, tc_G3, tc_G4, tc_G5, tc_us, tc_un, s_one, s_holds, s_J13_bitCount, bz_bI, if_true]
      intro w hw h
      unfold upd
      rw [if_neg (fun q : w = t => h e ((mem e w).mpr (.inl (q ▸ ht))))]
      exact l6 w hw (fun u z => h u ((mem u w).mpr (.inl z)))
    · simp (maxSteps := 3000000) (disch := omega) only [Option.bind_some, tc_bs, tq_let, tc_I1, tc_I2, tc_J1, tc_J2, tc_J3, tc_F1, tc_F2, tc_F3, tc_F4, tc_G1, tc_G2, tc_G3, tc_G4, tc_G5, tc_us, tc_un, s_one, s_holds, s_J13_bitCount, bz_bI, if_true]
end LNK
