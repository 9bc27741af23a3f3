/-! ===== what the shapes name is closed under references (printed by wip/p58/tools/gen_closed.py) ===== -/
def okl (d : Nat → Prop) : List Value → Prop
  | [] => True
  | v :: fs => okv d v ∧ okl d fs
def okS (d : Nat → Prop) (o : tq_O) : Prop := match o with
  | .inl (_, fs) => okl d fs
  | .inr (_, (_, .inl _)) => True
  | .inr (_, (_, .inr (.inl _))) => True
  | .inr _ => False
section CLO
variable {S : tq_H} {b q a n : Nat} {d d' : Nat → Prop} {c : tc_C}
theorem okl_fill (F : Nat → Int32) (G : Nat → Int64) : ∀ (fs : List Value) (k : Nat), okl d fs → ∀ v, v ∈ tc_fill F G k fs → okv d v
  | [], _, _, v, h => by simp [tc_fill] at h
  | w :: fs, k, h, v, hv => by
    rw [tc_fill] at hv
    rcases List.mem_cons.mp hv with e | e
    · rw [e]
      have := h.1
      cases w <;> first | exact trivial | exact this
    · exact okl_fill F G fs (k + 1) h.2 v e
theorem okS_mk (h : okS d (S.2 q)) : oko d ((tc_mk S c).2 q) := by
  show oko d (tc_ob c q (S.2 q))
  cases o : S.2 q with
  | inl z =>
    obtain ⟨ci, fs⟩ := z
    rw [o] at h
    exact okl_fill _ _ fs 0 h
  | inr z =>
    obtain ⟨t, n, x⟩ := z
    rw [o] at h
    rcases x with x | x | x | x | x
    · exact trivial
    · exact trivial
    · exact h.elim
    · exact h.elim
    · exact h.elim
theorem okl_mono (h : ∀ k, d k → d' k) : ∀ {fs : List Value}, okl d fs → okl d' fs
  | [], _ => trivial
  | v :: fs, z => ⟨by cases v <;> first | exact trivial | exact h _ z.1, okl_mono h z.2⟩
theorem okS_mono (h : ∀ k, d k → d' k) {o : tq_O} (z : okS d o) : okS d' o := by
  rcases o with ⟨ci, fs⟩ | ⟨t, n, x⟩
  · exact okl_mono h z
  · rcases x with x | x | x | x | x
    · exact trivial
    · exact trivial
    · exact z.elim
    · exact z.elim
    · exact z.elim
theorem row_ok (h : tc_Row S q a n) (hd : d a) : okS d (S.2 q) ∧ okS d (S.2 a) := by
  obtain ⟨e1, -, g, e2⟩ := h
  rw [e1, e2]
  exact ⟨⟨hd, trivial⟩, trivial⟩
theorem set_ok (h : tc_Set S q a n) (hd : d a) : okS d (S.2 q) ∧ okS d (S.2 a) := by
  obtain ⟨e1, -, g, e2⟩ := h
  rw [e1, e2]
  exact ⟨⟨hd, trivial⟩, trivial⟩
theorem Tree_ok (h : tc_Tree S b) : ∀ i, i < 40 → okS (fun q => b ≤ q ∧ q < b + 40) (S.2 (b + i)) := by
  intro i hi
  obtain ⟨h0, h1, h2, h4, h6, h8, h10, h12, h14, h16, h18, h20, h22, h24, h26, h28, h30, h32, h34, h36, h38⟩ := h
  match i, hi with
  | 0, _ => show okS _ (S.2 b); rw [h0]; simp only [okS, okl, okv, and_true, true_and]; omega
  | 1, _ => show okS _ (S.2 (b + 1)); rw [h1]; simp only [okS, okl, okv, and_true, true_and]; omega
  | 2, _ => exact (row_ok h2 (by omega)).1
  | 3, _ => exact (row_ok h2 (by omega)).2
  | 4, _ => exact (row_ok h4 (by omega)).1
  | 5, _ => exact (row_ok h4 (by omega)).2
  | 6, _ => exact (row_ok h6 (by omega)).1
  | 7, _ => exact (row_ok h6 (by omega)).2
  | 8, _ => exact (row_ok h8 (by omega)).1
  | 9, _ => exact (row_ok h8 (by omega)).2
  | 10, _ => exact (row_ok h10 (by omega)).1
  | 11, _ => exact (row_ok h10 (by omega)).2
  | 12, _ => exact (set_ok h12 (by omega)).1
  | 13, _ => exact (set_ok h12 (by omega)).2
  | 14, _ => exact (set_ok h14 (by omega)).1
  | 15, _ => exact (set_ok h14 (by omega)).2
  | 16, _ => exact (set_ok h16 (by omega)).1
  | 17, _ => exact (set_ok h16 (by omega)).2
  | 18, _ => exact (set_ok h18 (by omega)).1
  | 19, _ => exact (set_ok h18 (by omega)).2
  | 20, _ => exact (set_ok h20 (by omega)).1
  | 21, _ => exact (set_ok h20 (by omega)).2
  | 22, _ => exact (row_ok h22 (by omega)).1
  | 23, _ => exact (row_ok h22 (by omega)).2
  | 24, _ => exact (row_ok h24 (by omega)).1
  | 25, _ => exact (row_ok h24 (by omega)).2
  | 26, _ => exact (row_ok h26 (by omega)).1
  | 27, _ => exact (row_ok h26 (by omega)).2
  | 28, _ => exact (row_ok h28 (by omega)).1
  | 29, _ => exact (row_ok h28 (by omega)).2
  | 30, _ => exact (row_ok h30 (by omega)).1
  | 31, _ => exact (row_ok h30 (by omega)).2
  | 32, _ => exact (row_ok h32 (by omega)).1
  | 33, _ => exact (row_ok h32 (by omega)).2
  | 34, _ => exact (row_ok h34 (by omega)).1
  | 35, _ => exact (row_ok h34 (by omega)).2
  | 36, _ => exact (row_ok h36 (by omega)).1
  | 37, _ => exact (row_ok h36 (by omega)).2
  | 38, _ => exact (row_ok h38 (by omega)).1
  | 39, _ => exact (row_ok h38 (by omega)).2
  | i + 40, hi => exact absurd hi (by omega)
theorem Upd_ok (h : tc_Upd S b) : ∀ i, i < 17 → okS (fun q => b ≤ q ∧ q < b + 17) (S.2 (b + i)) := by
  intro i hi
  obtain ⟨h0, h1, h3, h5, h7, h9, h11, h13, h15⟩ := h
  match i, hi with
  | 0, _ => show okS _ (S.2 b); rw [h0]; simp only [okS, okl, okv, and_true, true_and]; omega
  | 1, _ => exact (row_ok h1 (by omega)).1
  | 2, _ => exact (row_ok h1 (by omega)).2
  | 3, _ => exact (row_ok h3 (by omega)).1
  | 4, _ => exact (row_ok h3 (by omega)).2
  | 5, _ => exact (row_ok h5 (by omega)).1
  | 6, _ => exact (row_ok h5 (by omega)).2
  | 7, _ => exact (row_ok h7 (by omega)).1
  | 8, _ => exact (row_ok h7 (by omega)).2
  | 9, _ => exact (row_ok h9 (by omega)).1
  | 10, _ => exact (row_ok h9 (by omega)).2
  | 11, _ => exact (row_ok h11 (by omega)).1
  | 12, _ => exact (row_ok h11 (by omega)).2
  | 13, _ => exact (row_ok h13 (by omega)).1
  | 14, _ => exact (row_ok h13 (by omega)).2
  | 15, _ => exact (row_ok h15 (by omega)).1
  | 16, _ => exact (row_ok h15 (by omega)).2
  | i + 17, hi => exact absurd hi (by omega)
theorem Pth_ok (h : tc_Pth S b) : ∀ i, i < 19 → okS (fun q => b ≤ q ∧ q < b + 19) (S.2 (b + i)) := by
  intro i hi
  obtain ⟨h0, h1, h3, h5, h7, h9, h11, h13, h15, h17⟩ := h
  match i, hi with
  | 0, _ => show okS _ (S.2 b); rw [h0]; simp only [okS, okl, okv, and_true, true_and]; omega
  | 1, _ => exact (row_ok h1 (by omega)).1
  | 2, _ => exact (row_ok h1 (by omega)).2
  | 3, _ => exact (row_ok h3 (by omega)).1
  | 4, _ => exact (row_ok h3 (by omega)).2
  | 5, _ => exact (row_ok h5 (by omega)).1
  | 6, _ => exact (row_ok h5 (by omega)).2
  | 7, _ => exact (row_ok h7 (by omega)).1
  | 8, _ => exact (row_ok h7 (by omega)).2
  | 9, _ => exact (row_ok h9 (by omega)).1
  | 10, _ => exact (row_ok h9 (by omega)).2
  | 11, _ => exact (row_ok h11 (by omega)).1
  | 12, _ => exact (row_ok h11 (by omega)).2
  | 13, _ => exact (row_ok h13 (by omega)).1
  | 14, _ => exact (row_ok h13 (by omega)).2
  | 15, _ => exact (row_ok h15 (by omega)).1
  | 16, _ => exact (row_ok h15 (by omega)).2
  | 17, _ => exact (row_ok h17 (by omega)).1
  | 18, _ => exact (row_ok h17 (by omega)).2
  | i + 19, hi => exact absurd hi (by omega)
theorem Sch_ok (h : tc_Sch S b) : ∀ i, i < 17 → okS (fun q => b ≤ q ∧ q < b + 17) (S.2 (b + i)) := by
  intro i hi
  obtain ⟨h0, h1, h3, h5, h7, h9, h11, h13, h15⟩ := h
  match i, hi with
  | 0, _ => show okS _ (S.2 b); rw [h0]; simp only [okS, okl, okv, and_true, true_and]; omega
  | 1, _ => exact (row_ok h1 (by omega)).1
  | 2, _ => exact (row_ok h1 (by omega)).2
  | 3, _ => exact (row_ok h3 (by omega)).1
  | 4, _ => exact (row_ok h3 (by omega)).2
  | 5, _ => exact (row_ok h5 (by omega)).1
  | 6, _ => exact (row_ok h5 (by omega)).2
  | 7, _ => exact (row_ok h7 (by omega)).1
  | 8, _ => exact (row_ok h7 (by omega)).2
  | 9, _ => exact (row_ok h9 (by omega)).1
  | 10, _ => exact (row_ok h9 (by omega)).2
  | 11, _ => exact (row_ok h11 (by omega)).1
  | 12, _ => exact (row_ok h11 (by omega)).2
  | 13, _ => exact (row_ok h13 (by omega)).1
  | 14, _ => exact (row_ok h13 (by omega)).2
  | 15, _ => exact (row_ok h15 (by omega)).1
  | 16, _ => exact (row_ok h15 (by omega)).2
  | i + 17, hi => exact absurd hi (by omega)
theorem Edi_ok (h : tc_Edi S b) : ∀ i, i < 15 → okS (fun q => b ≤ q ∧ q < b + 15) (S.2 (b + i)) := by
  intro i hi
  obtain ⟨h0, h1, h3, h5, h7, h9, h11, h13⟩ := h
  match i, hi with
  | 0, _ => show okS _ (S.2 b); rw [h0]; simp only [okS, okl, okv, and_true, true_and]; omega
  | 1, _ => exact (row_ok h1 (by omega)).1
  | 2, _ => exact (row_ok h1 (by omega)).2
  | 3, _ => exact (row_ok h3 (by omega)).1
  | 4, _ => exact (row_ok h3 (by omega)).2
  | 5, _ => exact (row_ok h5 (by omega)).1
  | 6, _ => exact (row_ok h5 (by omega)).2
  | 7, _ => exact (row_ok h7 (by omega)).1
  | 8, _ => exact (row_ok h7 (by omega)).2
  | 9, _ => exact (row_ok h9 (by omega)).1
  | 10, _ => exact (row_ok h9 (by omega)).2
  | 11, _ => exact (row_ok h11 (by omega)).1
  | 12, _ => exact (row_ok h11 (by omega)).2
  | 13, _ => exact (row_ok h13 (by omega)).1
  | 14, _ => exact (row_ok h13 (by omega)).2
  | i + 15, hi => exact absurd hi (by omega)
theorem Fnd_ok (h : tc_Fnd S b) : ∀ i, i < 7 → okS (fun q => (b ≤ q ∧ q < b + 7) ∨ q = 1 ∨ q = 2 ∨ q = 98) (S.2 (b + i)) := by
  intro i hi
  obtain ⟨h0, h1, h3, h5⟩ := h
  match i, hi with
  | 0, _ => show okS _ (S.2 b); rw [h0]; simp only [okS, okl, okv, and_true, true_and, or_true, true_or]; omega
  | 1, _ => exact (set_ok h1 (by omega)).1
  | 2, _ => exact (set_ok h1 (by omega)).2
  | 3, _ => exact (set_ok h3 (by omega)).1
  | 4, _ => exact (set_ok h3 (by omega)).2
  | 5, _ => exact (row_ok h5 (by omega)).1
  | 6, _ => exact (row_ok h5 (by omega)).2
  | i + 7, hi => exact absurd hi (by omega)
theorem Mod_ok (h : tc_Mod S b) : ∀ i, i < 50 → okS (fun q => 155 ≤ q ∧ q ≤ 204) (S.2 (155 + i)) := by
  intro i hi
  obtain ⟨h0, h1, h2, h3, h4, h5, h6, h7, h8, h9, h10, h11, h12, h13, h14, h15, h16, h17, h18, h19, h20, h21, h22, h23, h24, h25, h26, h27, h28, h29, h30, h31, h32, h33, h34, h35, h36, h37, h38, h39, h40, h41, h42, h43, h44, h45, h46, h47, h48, h49⟩ := h
  match i, hi with
  | 0, _ => show okS _ (S.2 155); rw [h0]; simp only [okS, okl, okv, and_true, true_and]; omega
  | 1, _ => show okS _ (S.2 156); obtain ⟨g, e⟩ := h1; rw [e]; exact trivial
  | 2, _ => show okS _ (S.2 157); obtain ⟨g, e⟩ := h2; rw [e]; exact trivial
  | 3, _ => show okS _ (S.2 158); obtain ⟨g, e⟩ := h3; rw [e]; exact trivial
  | 4, _ => show okS _ (S.2 159); obtain ⟨g, e⟩ := h4; rw [e]; exact trivial
  | 5, _ => show okS _ (S.2 160); obtain ⟨g, e⟩ := h5; rw [e]; exact trivial
  | 6, _ => show okS _ (S.2 161); obtain ⟨g, e⟩ := h6; rw [e]; exact trivial
  | 7, _ => show okS _ (S.2 162); obtain ⟨g, e⟩ := h7; rw [e]; exact trivial
  | 8, _ => show okS _ (S.2 163); obtain ⟨g, e⟩ := h8; rw [e]; exact trivial
  | 9, _ => show okS _ (S.2 164); obtain ⟨g, e⟩ := h9; rw [e]; exact trivial
  | 10, _ => show okS _ (S.2 165); obtain ⟨g, e⟩ := h10; rw [e]; exact trivial
  | 11, _ => show okS _ (S.2 166); obtain ⟨g, e⟩ := h11; rw [e]; exact trivial
  | 12, _ => show okS _ (S.2 167); obtain ⟨g, e⟩ := h12; rw [e]; exact trivial
  | 13, _ => show okS _ (S.2 168); obtain ⟨g, e⟩ := h13; rw [e]; exact trivial
  | 14, _ => show okS _ (S.2 169); obtain ⟨g, e⟩ := h14; rw [e]; exact trivial
  | 15, _ => show okS _ (S.2 170); obtain ⟨g, e⟩ := h15; rw [e]; exact trivial
  | 16, _ => show okS _ (S.2 171); obtain ⟨g, e⟩ := h16; rw [e]; exact trivial
  | 17, _ => show okS _ (S.2 172); obtain ⟨g, e⟩ := h17; rw [e]; exact trivial
  | 18, _ => show okS _ (S.2 173); obtain ⟨g, e⟩ := h18; rw [e]; exact trivial
  | 19, _ => show okS _ (S.2 174); obtain ⟨g, e⟩ := h19; rw [e]; exact trivial
  | 20, _ => show okS _ (S.2 175); obtain ⟨g, e⟩ := h20; rw [e]; exact trivial
  | 21, _ => show okS _ (S.2 176); obtain ⟨g, e⟩ := h21; rw [e]; exact trivial
  | 22, _ => show okS _ (S.2 177); obtain ⟨g, e⟩ := h22; rw [e]; exact trivial
  | 23, _ => show okS _ (S.2 178); obtain ⟨g, e⟩ := h23; rw [e]; exact trivial
  | 24, _ => show okS _ (S.2 179); obtain ⟨g, e⟩ := h24; rw [e]; exact trivial
  | 25, _ => show okS _ (S.2 180); obtain ⟨g, e⟩ := h25; rw [e]; exact trivial
  | 26, _ => show okS _ (S.2 181); obtain ⟨g, e⟩ := h26; rw [e]; exact trivial
  | 27, _ => show okS _ (S.2 182); obtain ⟨g, e⟩ := h27; rw [e]; exact trivial
  | 28, _ => show okS _ (S.2 183); obtain ⟨g, e⟩ := h28; rw [e]; exact trivial
  | 29, _ => show okS _ (S.2 184); obtain ⟨g, e⟩ := h29; rw [e]; exact trivial
  | 30, _ => show okS _ (S.2 185); obtain ⟨g, e⟩ := h30; rw [e]; exact trivial
  | 31, _ => show okS _ (S.2 186); obtain ⟨g, e⟩ := h31; rw [e]; exact trivial
  | 32, _ => show okS _ (S.2 187); obtain ⟨g, e⟩ := h32; rw [e]; exact trivial
  | 33, _ => show okS _ (S.2 188); obtain ⟨g, e⟩ := h33; rw [e]; exact trivial
  | 34, _ => show okS _ (S.2 189); obtain ⟨g, e⟩ := h34; rw [e]; exact trivial
  | 35, _ => show okS _ (S.2 190); obtain ⟨g, e⟩ := h35; rw [e]; exact trivial
  | 36, _ => show okS _ (S.2 191); obtain ⟨g, e⟩ := h36; rw [e]; exact trivial
  | 37, _ => show okS _ (S.2 192); obtain ⟨g, e⟩ := h37; rw [e]; exact trivial
  | 38, _ => show okS _ (S.2 193); obtain ⟨g, e⟩ := h38; rw [e]; exact trivial
  | 39, _ => show okS _ (S.2 194); obtain ⟨g, e⟩ := h39; rw [e]; exact trivial
  | 40, _ => show okS _ (S.2 195); obtain ⟨g, e⟩ := h40; rw [e]; exact trivial
  | 41, _ => show okS _ (S.2 196); obtain ⟨g, e⟩ := h41; rw [e]; exact trivial
  | 42, _ => show okS _ (S.2 197); obtain ⟨g, e⟩ := h42; rw [e]; exact trivial
  | 43, _ => show okS _ (S.2 198); obtain ⟨g, e⟩ := h43; rw [e]; exact trivial
  | 44, _ => show okS _ (S.2 199); obtain ⟨g, e⟩ := h44; rw [e]; exact trivial
  | 45, _ => show okS _ (S.2 200); obtain ⟨g, e⟩ := h45; rw [e]; exact trivial
  | 46, _ => show okS _ (S.2 201); obtain ⟨g, e⟩ := h46; rw [e]; exact trivial
  | 47, _ => show okS _ (S.2 202); obtain ⟨g, e⟩ := h47; rw [e]; exact trivial
  | 48, _ => show okS _ (S.2 203); obtain ⟨g, e⟩ := h48; rw [e]; exact trivial
  | 49, _ => show okS _ (S.2 204); obtain ⟨g, e⟩ := h49; rw [e]; exact trivial
  | i + 50, hi => exact absurd hi (by omega)
/-- the store's own objects, its versions', its edits' -/
def Dw (ed : Option Nat) (nv : Nat) (vt : Nat → Nat) (q : Nat) : Prop := q < 155 ∨ (∃ k, k < nv ∧ vt k ≤ q ∧ q < vt k + 40) ∨ ∃ e, ed = some e ∧ e ≤ q ∧ q < e + 15
theorem at_off {f : Nat → Prop} {N : Nat} (h : ∀ i, i < N → f (b + i)) (h1 : b ≤ q) (h2 : q < b + N) : f q := by
  have := h (q - b) (by omega)
  rwa [show b + (q - b) = q by omega] at this
end CLO
section CLD
variable {S : tq_H} {c : tc_C} {di : DI} {D : Doc} {m : Nat} {U : Ups} {P : Pat} {H : Nat → Bool} {Z : Sma} {X : Nat → Bool} {nw : Nat} {ed : Option Nat} {nv : Nat} {vt mv : Nat → Nat} {Dv : Nat → Doc}
theorem Cor.closed (h : Cor S c di D m U P H Z X nw ed nv vt mv Dv) : ∀ q, Dw ed nv vt q → (q < (tc_mk S c).1 ∧ (q < 155 ∨ 206 ≤ q)) ∧ oko (Dw ed nv vt) ((tc_mk S c).2 q) := by
  have hk := h.2.2.2.2.2.2.2.2.2.1
  obtain ⟨⟨t0, ⟨ga, t148⟩, t149, t151, t153, -⟩, ⟨a1, a41⟩, a81, a98, ⟨a117, a124⟩, a131, -, hS, hv, -, he⟩ := h.1
  have lo : ∀ q, q < 155 → Dw ed nv vt q := fun q hq => Or.inl hq
  intro q hq
  rcases hq with hq | ⟨k, hk1, hk2, hk3⟩ | ⟨e, he1, he2, he3⟩
  · refine ⟨⟨by show q < S.1; omega, Or.inl hq⟩, ?_⟩
    by_cases q148 : q = 148
    · subst q148
      show oko _ (tc_ob c 148 (S.2 148))
      rw [t148]
      intro j k hj6 hj
      have hj : c.2.2.2.2 148 j = some k := hj
      by_cases hjv : j < nv
      · have := (hk.2.2.2.2 j hjv).1
        rw [hj] at this
        cases this
        exact Or.inr (Or.inl ⟨j, hjv, Nat.le_refl _, by omega⟩)
      · rw [hk.2.2.2.1 j (by omega) hj6] at hj
        cases hj
    · refine okS_mk ?_
      by_cases q0 : q = 0
      · subst q0
        rw [t0]
        simp only [okl, okS, okv, and_true, true_and]
        refine ⟨lo _ (by omega), lo _ (by omega), lo _ (by omega), lo _ (by omega), lo _ (by omega), lo _ (by omega), lo _ (by omega), lo _ (by omega), lo _ (by omega), lo _ (by omega), lo _ (by omega), ?_⟩
        cases ed with
        | none => exact trivial
        | some e => exact Or.inr (Or.inr ⟨e, rfl, Nat.le_refl _, by omega⟩)
      by_cases z1 : q < 41
      · exact at_off (f := fun q => okS (Dw ed nv vt) (S.2 q)) (N := 40) (fun i hi => okS_mono (fun k hk => lo k (by omega)) (Tree_ok a1 i hi)) (by omega) (by omega)
      by_cases z2 : q < 81
      · exact at_off (f := fun q => okS (Dw ed nv vt) (S.2 q)) (N := 40) (fun i hi => okS_mono (fun k hk => lo k (by omega)) (Tree_ok a41 i hi)) (by omega) (by omega)
      by_cases z3 : q < 98
      · exact at_off (f := fun q => okS (Dw ed nv vt) (S.2 q)) (N := 17) (fun i hi => okS_mono (fun k hk => lo k (by omega)) (Upd_ok a81 i hi)) (by omega) (by omega)
      by_cases z4 : q < 117
      · exact at_off (f := fun q => okS (Dw ed nv vt) (S.2 q)) (N := 19) (fun i hi => okS_mono (fun k hk => lo k (by omega)) (Pth_ok a98 i hi)) (by omega) (by omega)
      by_cases z5 : q < 124
      · exact at_off (f := fun q => okS (Dw ed nv vt) (S.2 q)) (N := 7) (fun i hi => okS_mono (fun k hk => lo k (by omega)) (Fnd_ok a117 i hi)) (by omega) (by omega)
      by_cases z6 : q < 131
      · exact at_off (f := fun q => okS (Dw ed nv vt) (S.2 q)) (N := 7) (fun i hi => okS_mono (fun k hk => lo k (by omega)) (Fnd_ok a124 i hi)) (by omega) (by omega)
      by_cases z7 : q < 148
      · exact at_off (f := fun q => okS (Dw ed nv vt) (S.2 q)) (N := 17) (fun i hi => okS_mono (fun k hk => lo k (by omega)) (Sch_ok a131 i hi)) (by omega) (by omega)
      by_cases y1 : q = 149
      · subst y1; exact (row_ok t149 (lo _ (by omega))).1
      by_cases y2 : q = 150
      · subst y2; exact (row_ok t149 (lo _ (by omega))).2
      by_cases y3 : q = 151
      · subst y3; exact (row_ok t151 (lo _ (by omega))).1
      by_cases y4 : q = 152
      · subst y4; exact (row_ok t151 (lo _ (by omega))).2
      by_cases y5 : q = 153
      · subst y5; exact (set_ok t153 (lo _ (by omega))).1
      have y6 : q = 154 := by omega
      subst y6; exact (set_ok t153 (lo _ (by omega))).2
  · obtain ⟨v1, v2, v3⟩ := hv k hk1
    refine ⟨⟨by show q < S.1; omega, Or.inr (by omega)⟩, okS_mk ?_⟩
    exact at_off (f := fun q => okS (Dw ed nv vt) (S.2 q)) (N := 40) (fun i hi => okS_mono (fun j hj => Or.inr (Or.inl ⟨k, hk1, hj.1, hj.2⟩)) (Tree_ok v1 i hi)) (by omega) (by omega)
  · obtain ⟨v1, v2, v3, -⟩ := he e he1
    refine ⟨⟨by show q < S.1; omega, Or.inr (by omega)⟩, okS_mk ?_⟩
    exact at_off (f := fun q => okS (Dw ed nv vt) (S.2 q)) (N := 15) (fun i hi => okS_mono (fun j hj => Or.inr (Or.inr ⟨e, he1, hj.1, hj.2⟩)) (Edi_ok v1 i hi)) (by omega) (by omega)
end CLD
