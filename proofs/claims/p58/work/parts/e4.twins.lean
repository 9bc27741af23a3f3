/-! ===== printed by wip/p58/tools/gen_lock.py: each call, in two ghosts alike ===== -/
theorem v_element {x1 x2 x3 : Int32} {W Wa : tq_H} {k : Int32} (h : f_V_insertElement 0 x1 x2 x3 205 W = some (k, Wa)) : ∃ r Wb, tq_is W 0 10 = some () ∧ f_X10_insertElement 0 x1 x2 x3 W = some (r, Wb) ∧ ((∃ v, r = .inr v ∧ k = 0 ∧ tq_sl Wb 205 0 (cI v) = some Wa) ∨ (r = .inl ((pk3 "java/lang/IndexOutOfBoundsException" "java/lang/IllegalArgumentException" "java/lang/IllegalStateException") k) ∧ k ≠ 0 ∧ (fun k => k = 1 ∨ k = 2 ∨ k = 3) k ∧ Wa = Wb)) := by
  unfold f_V_insertElement at h
  obtain ⟨⟨⟩, e0, h⟩ := tq_be h
  obtain ⟨⟨r, Wb⟩, e, h⟩ := tq_be h
  refine ⟨r, Wb, e0, e, ?_⟩
  cases r with
  | inl E =>
    right
    dsimp only at h
    by_cases c0 : E = "java/lang/IndexOutOfBoundsException"
    · rw [if_pos c0] at h
      cases h
      exact ⟨by rw [c0, pk3_1], by decide, Or.inl rfl, rfl⟩
    rw [if_neg c0] at h
    by_cases c1 : E = "java/lang/IllegalArgumentException"
    · rw [if_pos c1] at h
      cases h
      exact ⟨by rw [c1, pk3_2], by decide, Or.inr (Or.inl rfl), rfl⟩
    rw [if_neg c1] at h
    by_cases c2 : E = "java/lang/IllegalStateException"
    · rw [if_pos c2] at h
      cases h
      exact ⟨by rw [c2, pk3_3], by decide, Or.inr (Or.inr (rfl)), rfl⟩
    rw [if_neg c2] at h
    cases h
  | inr v =>
    left
    dsimp only at h
    obtain ⟨w, e5, h⟩ := tq_be h
    cases h
    exact ⟨v, rfl, rfl, e5⟩
theorem ax_element {dk : DI} {x1 x2 x3 : Int32} {W : tq_H} (h : InvE dk W) : ∃ W' u, AX (fun W => f_V_insertElement 0 x1 x2 x3 205 W) (fun W => f_X11_insertElement 155 x1 x2 x3 W) cI W W' ∧ InvE (dk.1, dk.2.1, u) W' ∧ EXp dk.2.2 u W' := by
  obtain ⟨W', u, e, i, ex⟩ := arm_insertElement (n := 5) (xs := (x5 x1 x2 x3 0)) (y4 := 0) h (sx1 x1 x2 x3 0) (sx2 x1 x2 x3 0) (sx3 x1 x2 x3 0)
  have e0 : f_V_law_c272 5 (x5 x1 x2 x3 0) 0 155 205 0 W = armI (f_V_insertElement 0 x1 x2 x3 205 W) (f_X11_insertElement 155 x1 x2 x3) 0 := by
    unfold f_V_law_c272
    rw [(sx1 x1 x2 x3 0), (sx2 x1 x2 x3 0), (sx3 x1 x2 x3 0)]; rfl
  rw [e0] at e
  exact ⟨W', u, armI_x (V := fun W => f_V_insertElement 0 x1 x2 x3 205 W) (R := fun W => f_X11_insertElement 155 x1 x2 x3 W) e, i, ex⟩
theorem tw_element {dk : DI} {x1 x2 x3 : Int32} {W : tq_H} (g : GI dk W) : Twin dk (dk.2.1) (PKp dk.2.2) (fun W => f_L_element 0 x1 x2 x3 W) W := by
  refine twin_of (G := fun W => f_X10_insertElement 0 x1 x2 x3 W) (G' := fun t H => f_X10_insertElement t x1 x2 x3 H) (V := fun W => f_V_insertElement 0 x1 x2 x3 205 W) (R := fun W => f_X11_insertElement 155 x1 x2 x3 W) (cv := cI) (p := (pk3 "java/lang/IndexOutOfBoundsException" "java/lang/IllegalArgumentException" "java/lang/IllegalStateException")) (ok := (fun k => k = 1 ∨ k = 2 ∨ k = 3)) (wv := fun v => v) (we := wE) (EX := fun u W' => EXp dk.2.2 u W')
    (fun hE ht => y_X10_insertElement ht hE) (fun hE ht => y_X11_insertElement ht hE) (fun W k Wa h => v_element h) (fun W Wb v h0 h => ?_) (fun W Wb k hk h0 h => ?_) (fun v1 v2 h => toI64_inj h) (fun u W' k hx ht hk ho => hx.l ht hk _) (fun u W' v hx ht ha => hx.r ht ha) (fun W h => ax_element h) g
  · unfold f_L_element
    rw [h0, Option.bind_some, h, Option.bind_some]
  · unfold f_L_element
    rcases hk with rfl | rfl | rfl
    · rw [pk3_1] at h ⊢
      rw [h0, Option.bind_some, h, Option.bind_some, wE_I]
      simp only [nAI, nSI, nSA, if_true, if_false]
    · rw [pk3_2] at h ⊢
      rw [h0, Option.bind_some, h, Option.bind_some, wE_A]
      simp only [nAI, nSI, nSA, if_true, if_false]
    · rw [pk3_3] at h ⊢
      rw [h0, Option.bind_some, h, Option.bind_some, wE_S]
      simp only [nAI, nSI, nSA, if_true, if_false]
theorem v_text {x1 x2 x3 : Int32} {W Wa : tq_H} {k : Int32} (h : f_V_insertText 0 x1 x2 x3 205 W = some (k, Wa)) : ∃ r Wb, tq_is W 0 10 = some () ∧ f_X10_insertText 0 x1 x2 x3 W = some (r, Wb) ∧ ((∃ v, r = .inr v ∧ k = 0 ∧ tq_sl Wb 205 0 (cI v) = some Wa) ∨ (r = .inl ((pk3 "java/lang/IndexOutOfBoundsException" "java/lang/IllegalArgumentException" "java/lang/IllegalStateException") k) ∧ k ≠ 0 ∧ (fun k => k = 1 ∨ k = 2 ∨ k = 3) k ∧ Wa = Wb)) := by
  unfold f_V_insertText at h
  obtain ⟨⟨⟩, e0, h⟩ := tq_be h
  obtain ⟨⟨r, Wb⟩, e, h⟩ := tq_be h
  refine ⟨r, Wb, e0, e, ?_⟩
  cases r with
  | inl E =>
    right
    dsimp only at h
    by_cases c0 : E = "java/lang/IndexOutOfBoundsException"
    · rw [if_pos c0] at h
      cases h
      exact ⟨by rw [c0, pk3_1], by decide, Or.inl rfl, rfl⟩
    rw [if_neg c0] at h
    by_cases c1 : E = "java/lang/IllegalArgumentException"
    · rw [if_pos c1] at h
      cases h
      exact ⟨by rw [c1, pk3_2], by decide, Or.inr (Or.inl rfl), rfl⟩
    rw [if_neg c1] at h
    by_cases c2 : E = "java/lang/IllegalStateException"
    · rw [if_pos c2] at h
      cases h
      exact ⟨by rw [c2, pk3_3], by decide, Or.inr (Or.inr (rfl)), rfl⟩
    rw [if_neg c2] at h
    cases h
  | inr v =>
    left
    dsimp only at h
    obtain ⟨w, e5, h⟩ := tq_be h
    cases h
    exact ⟨v, rfl, rfl, e5⟩
theorem ax_text {dk : DI} {x1 x2 x3 : Int32} {W : tq_H} (h : InvE dk W) : ∃ W' u, AX (fun W => f_V_insertText 0 x1 x2 x3 205 W) (fun W => f_X11_insertText 155 x1 x2 x3 W) cI W W' ∧ InvE (dk.1, dk.2.1, u) W' ∧ EXp dk.2.2 u W' := by
  obtain ⟨W', u, e, i, ex⟩ := arm_insertText (n := 5) (xs := (x5 x1 x2 x3 0)) (y4 := 0) h (sx1 x1 x2 x3 0) (sx2 x1 x2 x3 0) (sx3 x1 x2 x3 0)
  have e0 : f_V_law_c352 5 (x5 x1 x2 x3 0) 0 155 205 0 W = armI (f_V_insertText 0 x1 x2 x3 205 W) (f_X11_insertText 155 x1 x2 x3) 0 := by
    unfold f_V_law_c352
    rw [(sx1 x1 x2 x3 0), (sx2 x1 x2 x3 0), (sx3 x1 x2 x3 0)]; rfl
  rw [e0] at e
  exact ⟨W', u, armI_x (V := fun W => f_V_insertText 0 x1 x2 x3 205 W) (R := fun W => f_X11_insertText 155 x1 x2 x3 W) e, i, ex⟩
theorem tw_text {dk : DI} {x1 x2 x3 : Int32} {W : tq_H} (g : GI dk W) : Twin dk (dk.2.1) (PKp dk.2.2) (fun W => f_L_text 0 x1 x2 x3 W) W := by
  refine twin_of (G := fun W => f_X10_insertText 0 x1 x2 x3 W) (G' := fun t H => f_X10_insertText t x1 x2 x3 H) (V := fun W => f_V_insertText 0 x1 x2 x3 205 W) (R := fun W => f_X11_insertText 155 x1 x2 x3 W) (cv := cI) (p := (pk3 "java/lang/IndexOutOfBoundsException" "java/lang/IllegalArgumentException" "java/lang/IllegalStateException")) (ok := (fun k => k = 1 ∨ k = 2 ∨ k = 3)) (wv := fun v => v) (we := wE) (EX := fun u W' => EXp dk.2.2 u W')
    (fun hE ht => y_X10_insertText ht hE) (fun hE ht => y_X11_insertText ht hE) (fun W k Wa h => v_text h) (fun W Wb v h0 h => ?_) (fun W Wb k hk h0 h => ?_) (fun v1 v2 h => toI64_inj h) (fun u W' k hx ht hk ho => hx.l ht hk _) (fun u W' v hx ht ha => hx.r ht ha) (fun W h => ax_text h) g
  · unfold f_L_text
    rw [h0, Option.bind_some, h, Option.bind_some]
  · unfold f_L_text
    rcases hk with rfl | rfl | rfl
    · rw [pk3_1] at h ⊢
      rw [h0, Option.bind_some, h, Option.bind_some, wE_I]
      simp only [nAI, nSI, nSA, if_true, if_false]
    · rw [pk3_2] at h ⊢
      rw [h0, Option.bind_some, h, Option.bind_some, wE_A]
      simp only [nAI, nSI, nSA, if_true, if_false]
    · rw [pk3_3] at h ⊢
      rw [h0, Option.bind_some, h, Option.bind_some, wE_S]
      simp only [nAI, nSI, nSA, if_true, if_false]
theorem v_attribute {x1 x2 x3 : Int32} {W Wa : tq_H} {k : Int32} (h : f_V_insertAttribute 0 x1 x2 x3 205 W = some (k, Wa)) : ∃ r Wb, tq_is W 0 10 = some () ∧ f_X10_insertAttribute 0 x1 x2 x3 W = some (r, Wb) ∧ ((∃ v, r = .inr v ∧ k = 0 ∧ tq_sl Wb 205 0 (cI v) = some Wa) ∨ (r = .inl ((pk3 "java/lang/IndexOutOfBoundsException" "java/lang/IllegalArgumentException" "java/lang/IllegalStateException") k) ∧ k ≠ 0 ∧ (fun k => k = 1 ∨ k = 2 ∨ k = 3) k ∧ Wa = Wb)) := by
  unfold f_V_insertAttribute at h
  obtain ⟨⟨⟩, e0, h⟩ := tq_be h
  obtain ⟨⟨r, Wb⟩, e, h⟩ := tq_be h
  refine ⟨r, Wb, e0, e, ?_⟩
  cases r with
  | inl E =>
    right
    dsimp only at h
    by_cases c0 : E = "java/lang/IndexOutOfBoundsException"
    · rw [if_pos c0] at h
      cases h
      exact ⟨by rw [c0, pk3_1], by decide, Or.inl rfl, rfl⟩
    rw [if_neg c0] at h
    by_cases c1 : E = "java/lang/IllegalArgumentException"
    · rw [if_pos c1] at h
      cases h
      exact ⟨by rw [c1, pk3_2], by decide, Or.inr (Or.inl rfl), rfl⟩
    rw [if_neg c1] at h
    by_cases c2 : E = "java/lang/IllegalStateException"
    · rw [if_pos c2] at h
      cases h
      exact ⟨by rw [c2, pk3_3], by decide, Or.inr (Or.inr (rfl)), rfl⟩
    rw [if_neg c2] at h
    cases h
  | inr v =>
    left
    dsimp only at h
    obtain ⟨w, e5, h⟩ := tq_be h
    cases h
    exact ⟨v, rfl, rfl, e5⟩
theorem ax_attribute {dk : DI} {x1 x2 x3 : Int32} {W : tq_H} (h : InvE dk W) : ∃ W' u, AX (fun W => f_V_insertAttribute 0 x1 x2 x3 205 W) (fun W => f_X11_insertAttribute 155 x1 x2 x3 W) cI W W' ∧ InvE (dk.1, dk.2.1, u) W' ∧ EXp dk.2.2 u W' := by
  obtain ⟨W', u, e, i, ex⟩ := arm_insertAttribute (n := 5) (xs := (x5 x1 x2 x3 0)) (y4 := 0) h (sx1 x1 x2 x3 0) (sx2 x1 x2 x3 0) (sx3 x1 x2 x3 0)
  have e0 : f_V_law_c432 5 (x5 x1 x2 x3 0) 0 155 205 0 W = armI (f_V_insertAttribute 0 x1 x2 x3 205 W) (f_X11_insertAttribute 155 x1 x2 x3) 0 := by
    unfold f_V_law_c432
    rw [(sx1 x1 x2 x3 0), (sx2 x1 x2 x3 0), (sx3 x1 x2 x3 0)]; rfl
  rw [e0] at e
  exact ⟨W', u, armI_x (V := fun W => f_V_insertAttribute 0 x1 x2 x3 205 W) (R := fun W => f_X11_insertAttribute 155 x1 x2 x3 W) e, i, ex⟩
theorem tw_attribute {dk : DI} {x1 x2 x3 : Int32} {W : tq_H} (g : GI dk W) : Twin dk (dk.2.1) (PKp dk.2.2) (fun W => f_L_attribute 0 x1 x2 x3 W) W := by
  refine twin_of (G := fun W => f_X10_insertAttribute 0 x1 x2 x3 W) (G' := fun t H => f_X10_insertAttribute t x1 x2 x3 H) (V := fun W => f_V_insertAttribute 0 x1 x2 x3 205 W) (R := fun W => f_X11_insertAttribute 155 x1 x2 x3 W) (cv := cI) (p := (pk3 "java/lang/IndexOutOfBoundsException" "java/lang/IllegalArgumentException" "java/lang/IllegalStateException")) (ok := (fun k => k = 1 ∨ k = 2 ∨ k = 3)) (wv := fun v => v) (we := wE) (EX := fun u W' => EXp dk.2.2 u W')
    (fun hE ht => y_X10_insertAttribute ht hE) (fun hE ht => y_X11_insertAttribute ht hE) (fun W k Wa h => v_attribute h) (fun W Wb v h0 h => ?_) (fun W Wb k hk h0 h => ?_) (fun v1 v2 h => toI64_inj h) (fun u W' k hx ht hk ho => hx.l ht hk _) (fun u W' v hx ht ha => hx.r ht ha) (fun W h => ax_attribute h) g
  · unfold f_L_attribute
    rw [h0, Option.bind_some, h, Option.bind_some]
  · unfold f_L_attribute
    rcases hk with rfl | rfl | rfl
    · rw [pk3_1] at h ⊢
      rw [h0, Option.bind_some, h, Option.bind_some, wE_I]
      simp only [nAI, nSI, nSA, if_true, if_false]
    · rw [pk3_2] at h ⊢
      rw [h0, Option.bind_some, h, Option.bind_some, wE_A]
      simp only [nAI, nSI, nSA, if_true, if_false]
    · rw [pk3_3] at h ⊢
      rw [h0, Option.bind_some, h, Option.bind_some, wE_S]
      simp only [nAI, nSI, nSA, if_true, if_false]
theorem v_remove {x1 : Int32} {W Wa : tq_H} {k : Int32} (h : f_V_remove 0 x1 205 W = some (k, Wa)) : ∃ r Wb, tq_is W 0 10 = some () ∧ f_X10_remove 0 x1 W = some (r, Wb) ∧ ((∃ v, r = .inr v ∧ k = 0 ∧ tq_sl Wb 205 0 (cI v) = some Wa) ∨ (r = .inl ((pk3 "java/lang/IndexOutOfBoundsException" "java/lang/IllegalStateException" "") k) ∧ k ≠ 0 ∧ (fun k => k = 1 ∨ k = 2) k ∧ Wa = Wb)) := by
  unfold f_V_remove at h
  obtain ⟨⟨⟩, e0, h⟩ := tq_be h
  obtain ⟨⟨r, Wb⟩, e, h⟩ := tq_be h
  refine ⟨r, Wb, e0, e, ?_⟩
  cases r with
  | inl E =>
    right
    dsimp only at h
    by_cases c0 : E = "java/lang/IndexOutOfBoundsException"
    · rw [if_pos c0] at h
      cases h
      exact ⟨by rw [c0, pk3_1], by decide, Or.inl rfl, rfl⟩
    rw [if_neg c0] at h
    by_cases c1 : E = "java/lang/IllegalStateException"
    · rw [if_pos c1] at h
      cases h
      exact ⟨by rw [c1, pk3_2], by decide, Or.inr (rfl), rfl⟩
    rw [if_neg c1] at h
    cases h
  | inr v =>
    left
    dsimp only at h
    obtain ⟨w, e5, h⟩ := tq_be h
    cases h
    exact ⟨v, rfl, rfl, e5⟩
theorem ax_remove {dk : DI} {x1 : Int32} {W : tq_H} (h : InvE dk W) : ∃ W' u, AX (fun W => f_V_remove 0 x1 205 W) (fun W => f_X11_remove 155 x1 W) cI W W' ∧ InvE (dk.1, dk.2.1, u) W' ∧ EXp dk.2.2 u W' := by
  obtain ⟨W', u, e, i, ex⟩ := arm_remove (n := 5) (xs := (x5 x1 0 0 0)) (y4 := 0) h (sx1 x1 0 0 0)
  have e0 : f_V_law_c512 5 (x5 x1 0 0 0) 0 155 205 0 W = armI (f_V_remove 0 x1 205 W) (f_X11_remove 155 x1) 0 := by
    unfold f_V_law_c512
    rw [(sx1 x1 0 0 0)]; rfl
  rw [e0] at e
  exact ⟨W', u, armI_x (V := fun W => f_V_remove 0 x1 205 W) (R := fun W => f_X11_remove 155 x1 W) e, i, ex⟩
theorem tw_remove {dk : DI} {x1 : Int32} {W : tq_H} (g : GI dk W) : Twin dk (dk.2.1) (PKp dk.2.2) (fun W => f_L_remove 0 x1 W) W := by
  refine twin_of (G := fun W => f_X10_remove 0 x1 W) (G' := fun t H => f_X10_remove t x1 H) (V := fun W => f_V_remove 0 x1 205 W) (R := fun W => f_X11_remove 155 x1 W) (cv := cI) (p := (pk3 "java/lang/IndexOutOfBoundsException" "java/lang/IllegalStateException" "")) (ok := (fun k => k = 1 ∨ k = 2)) (wv := fun v => v) (we := wE) (EX := fun u W' => EXp dk.2.2 u W')
    (fun hE ht => y_X10_remove ht hE) (fun hE ht => y_X11_remove ht hE) (fun W k Wa h => v_remove h) (fun W Wb v h0 h => ?_) (fun W Wb k hk h0 h => ?_) (fun v1 v2 h => toI64_inj h) (fun u W' k hx ht hk ho => hx.l ht hk _) (fun u W' v hx ht ha => hx.r ht ha) (fun W h => ax_remove h) g
  · unfold f_L_remove
    rw [h0, Option.bind_some, h, Option.bind_some]
  · unfold f_L_remove
    rcases hk with rfl | rfl
    · rw [pk3_1] at h ⊢
      rw [h0, Option.bind_some, h, Option.bind_some, wE_I]
      simp only [nAI, nSI, nSA, if_true, if_false]
    · rw [pk3_2] at h ⊢
      rw [h0, Option.bind_some, h, Option.bind_some, wE_S]
      simp only [nAI, nSI, nSA, if_true, if_false]
theorem v_rename {x1 x2 : Int32} {W Wa : tq_H} {k : Int32} (h : f_V_rename 0 x1 x2 205 W = some (k, Wa)) : ∃ r Wb, tq_is W 0 10 = some () ∧ f_X10_rename 0 x1 x2 W = some (r, Wb) ∧ ((∃ v, r = .inr v ∧ k = 0 ∧ tq_sl Wb 205 0 (cI v) = some Wa) ∨ (r = .inl ((pk3 "java/lang/IndexOutOfBoundsException" "java/lang/IllegalArgumentException" "java/lang/IllegalStateException") k) ∧ k ≠ 0 ∧ (fun k => k = 1 ∨ k = 2 ∨ k = 3) k ∧ Wa = Wb)) := by
  unfold f_V_rename at h
  obtain ⟨⟨⟩, e0, h⟩ := tq_be h
  obtain ⟨⟨r, Wb⟩, e, h⟩ := tq_be h
  refine ⟨r, Wb, e0, e, ?_⟩
  cases r with
  | inl E =>
    right
    dsimp only at h
    by_cases c0 : E = "java/lang/IndexOutOfBoundsException"
    · rw [if_pos c0] at h
      cases h
      exact ⟨by rw [c0, pk3_1], by decide, Or.inl rfl, rfl⟩
    rw [if_neg c0] at h
    by_cases c1 : E = "java/lang/IllegalArgumentException"
    · rw [if_pos c1] at h
      cases h
      exact ⟨by rw [c1, pk3_2], by decide, Or.inr (Or.inl rfl), rfl⟩
    rw [if_neg c1] at h
    by_cases c2 : E = "java/lang/IllegalStateException"
    · rw [if_pos c2] at h
      cases h
      exact ⟨by rw [c2, pk3_3], by decide, Or.inr (Or.inr (rfl)), rfl⟩
    rw [if_neg c2] at h
    cases h
  | inr v =>
    left
    dsimp only at h
    obtain ⟨w, e5, h⟩ := tq_be h
    cases h
    exact ⟨v, rfl, rfl, e5⟩
theorem ax_rename {dk : DI} {x1 x2 : Int32} {W : tq_H} (h : InvE dk W) : ∃ W' u, AX (fun W => f_V_rename 0 x1 x2 205 W) (fun W => f_X11_rename 155 x1 x2 W) cI W W' ∧ InvE (dk.1, dk.2.1, u) W' ∧ EXp dk.2.2 u W' := by
  obtain ⟨W', u, e, i, ex⟩ := arm_rename (n := 5) (xs := (x5 x1 x2 0 0)) (y4 := 0) h (sx1 x1 x2 0 0) (sx2 x1 x2 0 0)
  have e0 : f_V_law_c568 5 (x5 x1 x2 0 0) 0 155 205 0 W = armI (f_V_rename 0 x1 x2 205 W) (f_X11_rename 155 x1 x2) 0 := by
    unfold f_V_law_c568
    rw [(sx1 x1 x2 0 0), (sx2 x1 x2 0 0)]; rfl
  rw [e0] at e
  exact ⟨W', u, armI_x (V := fun W => f_V_rename 0 x1 x2 205 W) (R := fun W => f_X11_rename 155 x1 x2 W) e, i, ex⟩
theorem tw_rename {dk : DI} {x1 x2 : Int32} {W : tq_H} (g : GI dk W) : Twin dk (dk.2.1) (PKp dk.2.2) (fun W => f_L_rename 0 x1 x2 W) W := by
  refine twin_of (G := fun W => f_X10_rename 0 x1 x2 W) (G' := fun t H => f_X10_rename t x1 x2 H) (V := fun W => f_V_rename 0 x1 x2 205 W) (R := fun W => f_X11_rename 155 x1 x2 W) (cv := cI) (p := (pk3 "java/lang/IndexOutOfBoundsException" "java/lang/IllegalArgumentException" "java/lang/IllegalStateException")) (ok := (fun k => k = 1 ∨ k = 2 ∨ k = 3)) (wv := fun v => v) (we := wE) (EX := fun u W' => EXp dk.2.2 u W')
    (fun hE ht => y_X10_rename ht hE) (fun hE ht => y_X11_rename ht hE) (fun W k Wa h => v_rename h) (fun W Wb v h0 h => ?_) (fun W Wb k hk h0 h => ?_) (fun v1 v2 h => toI64_inj h) (fun u W' k hx ht hk ho => hx.l ht hk _) (fun u W' v hx ht ha => hx.r ht ha) (fun W h => ax_rename h) g
  · unfold f_L_rename
    rw [h0, Option.bind_some, h, Option.bind_some]
  · unfold f_L_rename
    rcases hk with rfl | rfl | rfl
    · rw [pk3_1] at h ⊢
      rw [h0, Option.bind_some, h, Option.bind_some, wE_I]
      simp only [nAI, nSI, nSA, if_true, if_false]
    · rw [pk3_2] at h ⊢
      rw [h0, Option.bind_some, h, Option.bind_some, wE_A]
      simp only [nAI, nSI, nSA, if_true, if_false]
    · rw [pk3_3] at h ⊢
      rw [h0, Option.bind_some, h, Option.bind_some, wE_S]
      simp only [nAI, nSI, nSA, if_true, if_false]
theorem v_revalue {x1 x2 : Int32} {W Wa : tq_H} {k : Int32} (h : f_V_setValue 0 x1 x2 205 W = some (k, Wa)) : ∃ r Wb, tq_is W 0 10 = some () ∧ f_X10_setValue 0 x1 x2 W = some (r, Wb) ∧ ((∃ v, r = .inr v ∧ k = 0 ∧ tq_sl Wb 205 0 (cI v) = some Wa) ∨ (r = .inl ((pk3 "java/lang/IndexOutOfBoundsException" "java/lang/IllegalArgumentException" "java/lang/IllegalStateException") k) ∧ k ≠ 0 ∧ (fun k => k = 1 ∨ k = 2 ∨ k = 3) k ∧ Wa = Wb)) := by
  unfold f_V_setValue at h
  obtain ⟨⟨⟩, e0, h⟩ := tq_be h
  obtain ⟨⟨r, Wb⟩, e, h⟩ := tq_be h
  refine ⟨r, Wb, e0, e, ?_⟩
  cases r with
  | inl E =>
    right
    dsimp only at h
    by_cases c0 : E = "java/lang/IndexOutOfBoundsException"
    · rw [if_pos c0] at h
      cases h
      exact ⟨by rw [c0, pk3_1], by decide, Or.inl rfl, rfl⟩
    rw [if_neg c0] at h
    by_cases c1 : E = "java/lang/IllegalArgumentException"
    · rw [if_pos c1] at h
      cases h
      exact ⟨by rw [c1, pk3_2], by decide, Or.inr (Or.inl rfl), rfl⟩
    rw [if_neg c1] at h
    by_cases c2 : E = "java/lang/IllegalStateException"
    · rw [if_pos c2] at h
      cases h
      exact ⟨by rw [c2, pk3_3], by decide, Or.inr (Or.inr (rfl)), rfl⟩
    rw [if_neg c2] at h
    cases h
  | inr v =>
    left
    dsimp only at h
    obtain ⟨w, e5, h⟩ := tq_be h
    cases h
    exact ⟨v, rfl, rfl, e5⟩
theorem ax_revalue {dk : DI} {x1 x2 : Int32} {W : tq_H} (h : InvE dk W) : ∃ W' u, AX (fun W => f_V_setValue 0 x1 x2 205 W) (fun W => f_X11_setValue 155 x1 x2 W) cI W W' ∧ InvE (dk.1, dk.2.1, u) W' ∧ EXp dk.2.2 u W' := by
  obtain ⟨W', u, e, i, ex⟩ := arm_setValue (n := 5) (xs := (x5 x1 x2 0 0)) (y4 := 0) h (sx1 x1 x2 0 0) (sx2 x1 x2 0 0)
  have e0 : f_V_law_c636 5 (x5 x1 x2 0 0) 0 155 205 0 W = armI (f_V_setValue 0 x1 x2 205 W) (f_X11_setValue 155 x1 x2) 0 := by
    unfold f_V_law_c636
    rw [(sx1 x1 x2 0 0), (sx2 x1 x2 0 0)]; rfl
  rw [e0] at e
  exact ⟨W', u, armI_x (V := fun W => f_V_setValue 0 x1 x2 205 W) (R := fun W => f_X11_setValue 155 x1 x2 W) e, i, ex⟩
theorem tw_revalue {dk : DI} {x1 x2 : Int32} {W : tq_H} (g : GI dk W) : Twin dk (dk.2.1) (PKp dk.2.2) (fun W => f_L_revalue 0 x1 x2 W) W := by
  refine twin_of (G := fun W => f_X10_setValue 0 x1 x2 W) (G' := fun t H => f_X10_setValue t x1 x2 H) (V := fun W => f_V_setValue 0 x1 x2 205 W) (R := fun W => f_X11_setValue 155 x1 x2 W) (cv := cI) (p := (pk3 "java/lang/IndexOutOfBoundsException" "java/lang/IllegalArgumentException" "java/lang/IllegalStateException")) (ok := (fun k => k = 1 ∨ k = 2 ∨ k = 3)) (wv := fun v => v) (we := wE) (EX := fun u W' => EXp dk.2.2 u W')
    (fun hE ht => y_X10_setValue ht hE) (fun hE ht => y_X11_setValue ht hE) (fun W k Wa h => v_revalue h) (fun W Wb v h0 h => ?_) (fun W Wb k hk h0 h => ?_) (fun v1 v2 h => toI64_inj h) (fun u W' k hx ht hk ho => hx.l ht hk _) (fun u W' v hx ht ha => hx.r ht ha) (fun W h => ax_revalue h) g
  · unfold f_L_revalue
    rw [h0, Option.bind_some, h, Option.bind_some]
  · unfold f_L_revalue
    rcases hk with rfl | rfl | rfl
    · rw [pk3_1] at h ⊢
      rw [h0, Option.bind_some, h, Option.bind_some, wE_I]
      simp only [nAI, nSI, nSA, if_true, if_false]
    · rw [pk3_2] at h ⊢
      rw [h0, Option.bind_some, h, Option.bind_some, wE_A]
      simp only [nAI, nSI, nSA, if_true, if_false]
    · rw [pk3_3] at h ⊢
      rw [h0, Option.bind_some, h, Option.bind_some, wE_S]
      simp only [nAI, nSI, nSA, if_true, if_false]
theorem v_move {x1 x2 x3 : Int32} {W Wa : tq_H} {k : Int32} (h : f_V_move 0 x1 x2 x3 205 W = some (k, Wa)) : ∃ r Wb, tq_is W 0 10 = some () ∧ f_X10_move 0 x1 x2 x3 W = some (r, Wb) ∧ ((∃ v, r = .inr v ∧ k = 0 ∧ tq_sl Wb 205 0 (cI v) = some Wa) ∨ (r = .inl ((pk3 "java/lang/IndexOutOfBoundsException" "java/lang/IllegalStateException" "") k) ∧ k ≠ 0 ∧ (fun k => k = 1 ∨ k = 2) k ∧ Wa = Wb)) := by
  unfold f_V_move at h
  obtain ⟨⟨⟩, e0, h⟩ := tq_be h
  obtain ⟨⟨r, Wb⟩, e, h⟩ := tq_be h
  refine ⟨r, Wb, e0, e, ?_⟩
  cases r with
  | inl E =>
    right
    dsimp only at h
    by_cases c0 : E = "java/lang/IndexOutOfBoundsException"
    · rw [if_pos c0] at h
      cases h
      exact ⟨by rw [c0, pk3_1], by decide, Or.inl rfl, rfl⟩
    rw [if_neg c0] at h
    by_cases c1 : E = "java/lang/IllegalStateException"
    · rw [if_pos c1] at h
      cases h
      exact ⟨by rw [c1, pk3_2], by decide, Or.inr (rfl), rfl⟩
    rw [if_neg c1] at h
    cases h
  | inr v =>
    left
    dsimp only at h
    obtain ⟨w, e5, h⟩ := tq_be h
    cases h
    exact ⟨v, rfl, rfl, e5⟩
theorem ax_move {dk : DI} {x1 x2 x3 : Int32} {W : tq_H} (h : InvE dk W) : ∃ W' u, AX (fun W => f_V_move 0 x1 x2 x3 205 W) (fun W => f_X11_move 155 x1 x2 x3 W) cI W W' ∧ InvE (dk.1, dk.2.1, u) W' ∧ EXp dk.2.2 u W' := by
  obtain ⟨W', u, e, i, ex⟩ := arm_move (n := 5) (xs := (x5 x1 x2 x3 0)) (y4 := 0) h (sx1 x1 x2 x3 0) (sx2 x1 x2 x3 0) (sx3 x1 x2 x3 0)
  have e0 : f_V_law_c704 5 (x5 x1 x2 x3 0) 0 155 205 0 W = armI (f_V_move 0 x1 x2 x3 205 W) (f_X11_move 155 x1 x2 x3) 0 := by
    unfold f_V_law_c704
    rw [(sx1 x1 x2 x3 0), (sx2 x1 x2 x3 0), (sx3 x1 x2 x3 0)]; rfl
  rw [e0] at e
  exact ⟨W', u, armI_x (V := fun W => f_V_move 0 x1 x2 x3 205 W) (R := fun W => f_X11_move 155 x1 x2 x3 W) e, i, ex⟩
theorem tw_move {dk : DI} {x1 x2 x3 : Int32} {W : tq_H} (g : GI dk W) : Twin dk (dk.2.1) (PKp dk.2.2) (fun W => f_L_move 0 x1 x2 x3 W) W := by
  refine twin_of (G := fun W => f_X10_move 0 x1 x2 x3 W) (G' := fun t H => f_X10_move t x1 x2 x3 H) (V := fun W => f_V_move 0 x1 x2 x3 205 W) (R := fun W => f_X11_move 155 x1 x2 x3 W) (cv := cI) (p := (pk3 "java/lang/IndexOutOfBoundsException" "java/lang/IllegalStateException" "")) (ok := (fun k => k = 1 ∨ k = 2)) (wv := fun v => v) (we := wE) (EX := fun u W' => EXp dk.2.2 u W')
    (fun hE ht => y_X10_move ht hE) (fun hE ht => y_X11_move ht hE) (fun W k Wa h => v_move h) (fun W Wb v h0 h => ?_) (fun W Wb k hk h0 h => ?_) (fun v1 v2 h => toI64_inj h) (fun u W' k hx ht hk ho => hx.l ht hk _) (fun u W' v hx ht ha => hx.r ht ha) (fun W h => ax_move h) g
  · unfold f_L_move
    rw [h0, Option.bind_some, h, Option.bind_some]
  · unfold f_L_move
    rcases hk with rfl | rfl
    · rw [pk3_1] at h ⊢
      rw [h0, Option.bind_some, h, Option.bind_some, wE_I]
      simp only [nAI, nSI, nSA, if_true, if_false]
    · rw [pk3_2] at h ⊢
      rw [h0, Option.bind_some, h, Option.bind_some, wE_S]
      simp only [nAI, nSI, nSA, if_true, if_false]
theorem v_declare {x1 x2 : Int32} {W Wa : tq_H} {k : Int32} (h : f_V_declare 0 x1 x2 205 W = some (k, Wa)) : ∃ r Wb, tq_is W 0 10 = some () ∧ f_X10_declare 0 x1 x2 W = some (r, Wb) ∧ ((∃ v, r = .inr v ∧ k = 0 ∧ tq_sl Wb 205 0 (cI v) = some Wa) ∨ (r = .inl ((pk3 "java/lang/IndexOutOfBoundsException" "java/lang/IllegalArgumentException" "java/lang/IllegalStateException") k) ∧ k ≠ 0 ∧ (fun k => k = 1 ∨ k = 2 ∨ k = 3) k ∧ Wa = Wb)) := by
  unfold f_V_declare at h
  obtain ⟨⟨⟩, e0, h⟩ := tq_be h
  obtain ⟨⟨r, Wb⟩, e, h⟩ := tq_be h
  refine ⟨r, Wb, e0, e, ?_⟩
  cases r with
  | inl E =>
    right
    dsimp only at h
    by_cases c0 : E = "java/lang/IndexOutOfBoundsException"
    · rw [if_pos c0] at h
      cases h
      exact ⟨by rw [c0, pk3_1], by decide, Or.inl rfl, rfl⟩
    rw [if_neg c0] at h
    by_cases c1 : E = "java/lang/IllegalArgumentException"
    · rw [if_pos c1] at h
      cases h
      exact ⟨by rw [c1, pk3_2], by decide, Or.inr (Or.inl rfl), rfl⟩
    rw [if_neg c1] at h
    by_cases c2 : E = "java/lang/IllegalStateException"
    · rw [if_pos c2] at h
      cases h
      exact ⟨by rw [c2, pk3_3], by decide, Or.inr (Or.inr (rfl)), rfl⟩
    rw [if_neg c2] at h
    cases h
  | inr v =>
    left
    dsimp only at h
    obtain ⟨w, e5, h⟩ := tq_be h
    cases h
    exact ⟨v, rfl, rfl, e5⟩
theorem ax_declare {dk : DI} {x1 x2 : Int32} {W : tq_H} (h : InvE dk W) : ∃ W' u, AX (fun W => f_V_declare 0 x1 x2 205 W) (fun W => f_X11_declare 155 x1 x2 W) cI W W' ∧ InvE (dk.1, dk.2.1, u) W' ∧ EXp dk.2.2 u W' := by
  obtain ⟨W', u, e, i, ex⟩ := arm_declare (n := 5) (xs := (x5 x1 x2 0 0)) (y4 := 0) h (sx1 x1 x2 0 0) (sx2 x1 x2 0 0)
  have e0 : f_V_law_c784 5 (x5 x1 x2 0 0) 0 155 205 0 W = armI (f_V_declare 0 x1 x2 205 W) (f_X11_declare 155 x1 x2) 0 := by
    unfold f_V_law_c784
    rw [(sx1 x1 x2 0 0), (sx2 x1 x2 0 0)]; rfl
  rw [e0] at e
  exact ⟨W', u, armI_x (V := fun W => f_V_declare 0 x1 x2 205 W) (R := fun W => f_X11_declare 155 x1 x2 W) e, i, ex⟩
theorem tw_declare {dk : DI} {x1 x2 : Int32} {W : tq_H} (g : GI dk W) : Twin dk (dk.2.1) (PKp dk.2.2) (fun W => f_L_declare 0 x1 x2 W) W := by
  refine twin_of (G := fun W => f_X10_declare 0 x1 x2 W) (G' := fun t H => f_X10_declare t x1 x2 H) (V := fun W => f_V_declare 0 x1 x2 205 W) (R := fun W => f_X11_declare 155 x1 x2 W) (cv := cI) (p := (pk3 "java/lang/IndexOutOfBoundsException" "java/lang/IllegalArgumentException" "java/lang/IllegalStateException")) (ok := (fun k => k = 1 ∨ k = 2 ∨ k = 3)) (wv := fun v => v) (we := wE) (EX := fun u W' => EXp dk.2.2 u W')
    (fun hE ht => y_X10_declare ht hE) (fun hE ht => y_X11_declare ht hE) (fun W k Wa h => v_declare h) (fun W Wb v h0 h => ?_) (fun W Wb k hk h0 h => ?_) (fun v1 v2 h => toI64_inj h) (fun u W' k hx ht hk ho => hx.l ht hk _) (fun u W' v hx ht ha => hx.r ht ha) (fun W h => ax_declare h) g
  · unfold f_L_declare
    rw [h0, Option.bind_some, h, Option.bind_some]
  · unfold f_L_declare
    rcases hk with rfl | rfl | rfl
    · rw [pk3_1] at h ⊢
      rw [h0, Option.bind_some, h, Option.bind_some, wE_I]
      simp only [nAI, nSI, nSA, if_true, if_false]
    · rw [pk3_2] at h ⊢
      rw [h0, Option.bind_some, h, Option.bind_some, wE_A]
      simp only [nAI, nSI, nSA, if_true, if_false]
    · rw [pk3_3] at h ⊢
      rw [h0, Option.bind_some, h, Option.bind_some, wE_S]
      simp only [nAI, nSI, nSA, if_true, if_false]
theorem v_apply {W Wa : tq_H} {k : Int32} (h : f_V_apply 0 205 W = some (k, Wa)) : ∃ r Wb, tq_is W 0 10 = some () ∧ f_X10_apply 0 W = some (r, Wb) ∧ ((∃ v, r = .inr v ∧ k = 0 ∧ tq_sl Wb 205 0 (cI v) = some Wa) ∨ (r = .inl ((pk3 "java/lang/IllegalStateException" "" "") k) ∧ k ≠ 0 ∧ (fun k => k = 1) k ∧ Wa = Wb)) := by
  unfold f_V_apply at h
  obtain ⟨⟨⟩, e0, h⟩ := tq_be h
  obtain ⟨⟨r, Wb⟩, e, h⟩ := tq_be h
  refine ⟨r, Wb, e0, e, ?_⟩
  cases r with
  | inl E =>
    right
    dsimp only at h
    by_cases c0 : E = "java/lang/IllegalStateException"
    · rw [if_pos c0] at h
      cases h
      exact ⟨by rw [c0, pk3_1], by decide, rfl, rfl⟩
    rw [if_neg c0] at h
    cases h
  | inr v =>
    left
    dsimp only at h
    obtain ⟨w, e5, h⟩ := tq_be h
    cases h
    exact ⟨v, rfl, rfl, e5⟩
theorem ax_apply {dk : DI} {W : tq_H} (h : InvE dk W) (hk : dk.2.1 ≤ 1000) : ∃ W' u, AX (fun W => f_V_apply 0 205 W) (fun W => f_X11_apply 155 W) cI W W' ∧ InvE (dk.1, dk.2.1 + 1, u) W' ∧ EXa dk.2.2 u W' := by
  obtain ⟨W', u, e, i, ex⟩ := arm_apply (n := 5) (xs := (x5 0 0 0 0)) (y4 := 0) h hk
  have e0 : f_V_law_c852 5 (x5 0 0 0 0) 0 155 205 0 W = armI (f_V_apply 0 205 W) (f_X11_apply 155) 0 := by
    unfold f_V_law_c852
    rfl
  rw [e0] at e
  exact ⟨W', u, armI_x (V := fun W => f_V_apply 0 205 W) (R := fun W => f_X11_apply 155 W) e, i, ex⟩
theorem tw_apply {dk : DI} {W : tq_H} (g : GI dk W) (hk : dk.2.1 ≤ 1000) : Twin dk (dk.2.1 + 1) (PKa dk.2.2) (fun W => f_L_apply 0 W) W := by
  refine twin_of (G := fun W => f_X10_apply 0 W) (G' := fun t H => f_X10_apply t H) (V := fun W => f_V_apply 0 205 W) (R := fun W => f_X11_apply 155 W) (cv := cI) (p := (pk3 "java/lang/IllegalStateException" "" "")) (ok := (fun k => k = 1)) (wv := fun v => v) (we := wE) (EX := fun u W' => EXa dk.2.2 u W')
    (fun hE ht => y_X10_apply ht hE) (fun hE ht => y_X11_apply ht hE) (fun W k Wa h => v_apply h) (fun W Wb v h0 h => ?_) (fun W Wb k hk h0 h => ?_) (fun v1 v2 h => toI64_inj h) (fun u W' k hx ht hk ho => hx.l ho) (fun u W' v hx ht ha => hx.r ht) (fun W h => ax_apply h hk) g
  · unfold f_L_apply
    rw [h0, Option.bind_some, h, Option.bind_some]
  · unfold f_L_apply
    subst hk
    rw [pk3_1] at h ⊢
    rw [h0, Option.bind_some, h, Option.bind_some, wE_S]
    simp only [nAI, nSI, nSA, if_true, if_false]
theorem v_kind {x1 : Int32} {W Wa : tq_H} {k : Int32} (h : f_V_kind 0 x1 205 W = some (k, Wa)) : ∃ r Wb, tq_is W 0 10 = some () ∧ f_X10_kind 0 x1 W = some (r, Wb) ∧ ((∃ v, r = .inr v ∧ k = 0 ∧ tq_sl Wb 205 0 (cI v) = some Wa) ∨ (r = .inl ((pk3 "java/lang/IndexOutOfBoundsException" "" "") k) ∧ k ≠ 0 ∧ (fun k => k = 1) k ∧ Wa = Wb)) := by
  unfold f_V_kind at h
  obtain ⟨⟨⟩, e0, h⟩ := tq_be h
  obtain ⟨⟨r, Wb⟩, e, h⟩ := tq_be h
  refine ⟨r, Wb, e0, e, ?_⟩
  cases r with
  | inl E =>
    right
    dsimp only at h
    by_cases c0 : E = "java/lang/IndexOutOfBoundsException"
    · rw [if_pos c0] at h
      cases h
      exact ⟨by rw [c0, pk3_1], by decide, rfl, rfl⟩
    rw [if_neg c0] at h
    cases h
  | inr v =>
    left
    dsimp only at h
    obtain ⟨w, e5, h⟩ := tq_be h
    cases h
    exact ⟨v, rfl, rfl, e5⟩
theorem ax_kind {dk : DI} {x1 : Int32} {W : tq_H} (h : InvE dk W) : ∃ W' u, AX (fun W => f_V_kind 0 x1 205 W) (fun W => f_X11_kind 155 x1 W) cI W W' ∧ InvE (dk.1, dk.2.1, u) W' ∧ u = dk.2.2 := by
  obtain ⟨W', e, i⟩ := arm_kind (n := 5) (xs := (x5 x1 0 0 0)) (y4 := 0) h (sx1 x1 0 0 0)
  have e0 : f_V_law_c960 5 (x5 x1 0 0 0) 0 155 205 0 W = armI (f_V_kind 0 x1 205 W) (f_X11_kind 155 x1) 0 := by
    unfold f_V_law_c960
    rw [(sx1 x1 0 0 0)]; rfl
  rw [e0] at e
  exact ⟨W', dk.2.2, armI_x (V := fun W => f_V_kind 0 x1 205 W) (R := fun W => f_X11_kind 155 x1 W) e, i, rfl⟩
theorem tw_kind {dk : DI} {x1 : Int32} {W : tq_H} (g : GI dk W) : Twin dk (dk.2.1) (fun _ u => u = dk.2.2) (fun W => f_L_kind 0 x1 W) W := by
  refine twin_of (G := fun W => f_X10_kind 0 x1 W) (G' := fun t H => f_X10_kind t x1 H) (V := fun W => f_V_kind 0 x1 205 W) (R := fun W => f_X11_kind 155 x1 W) (cv := cI) (p := (pk3 "java/lang/IndexOutOfBoundsException" "" "")) (ok := (fun k => k = 1)) (wv := fun v => v) (we := wE) (EX := fun u W' => u = dk.2.2)
    (fun hE ht => y_X10_kind ht hE) (fun hE ht => y_X11_kind ht hE) (fun W k Wa h => v_kind h) (fun W Wb v h0 h => ?_) (fun W Wb k hk h0 h => ?_) (fun v1 v2 h => toI64_inj h) (fun u W' k hx ht hk ho => hx) (fun u W' v hx ht ha => hx) (fun W h => ax_kind h) g
  · unfold f_L_kind
    rw [h0, Option.bind_some, h, Option.bind_some]
  · unfold f_L_kind
    subst hk
    rw [pk3_1] at h ⊢
    rw [h0, Option.bind_some, h, Option.bind_some, wE_I]
    simp only [nAI, nSI, nSA, if_true, if_false]
theorem v_name {x1 : Int32} {W Wa : tq_H} {k : Int32} (h : f_V_name 0 x1 205 W = some (k, Wa)) : ∃ r Wb, tq_is W 0 10 = some () ∧ f_X10_name 0 x1 W = some (r, Wb) ∧ ((∃ v, r = .inr v ∧ k = 0 ∧ tq_sl Wb 205 0 (cI v) = some Wa) ∨ (r = .inl ((pk3 "java/lang/IndexOutOfBoundsException" "" "") k) ∧ k ≠ 0 ∧ (fun k => k = 1) k ∧ Wa = Wb)) := by
  unfold f_V_name at h
  obtain ⟨⟨⟩, e0, h⟩ := tq_be h
  obtain ⟨⟨r, Wb⟩, e, h⟩ := tq_be h
  refine ⟨r, Wb, e0, e, ?_⟩
  cases r with
  | inl E =>
    right
    dsimp only at h
    by_cases c0 : E = "java/lang/IndexOutOfBoundsException"
    · rw [if_pos c0] at h
      cases h
      exact ⟨by rw [c0, pk3_1], by decide, rfl, rfl⟩
    rw [if_neg c0] at h
    cases h
  | inr v =>
    left
    dsimp only at h
    obtain ⟨w, e5, h⟩ := tq_be h
    cases h
    exact ⟨v, rfl, rfl, e5⟩
theorem ax_name {dk : DI} {x1 : Int32} {W : tq_H} (h : InvE dk W) : ∃ W' u, AX (fun W => f_V_name 0 x1 205 W) (fun W => f_X11_name 155 x1 W) cI W W' ∧ InvE (dk.1, dk.2.1, u) W' ∧ u = dk.2.2 := by
  obtain ⟨W', e, i⟩ := arm_name (n := 5) (xs := (x5 x1 0 0 0)) (y4 := 0) h (sx1 x1 0 0 0)
  have e0 : f_V_law_c1016 5 (x5 x1 0 0 0) 0 155 205 0 W = armI (f_V_name 0 x1 205 W) (f_X11_name 155 x1) 0 := by
    unfold f_V_law_c1016
    rw [(sx1 x1 0 0 0)]; rfl
  rw [e0] at e
  exact ⟨W', dk.2.2, armI_x (V := fun W => f_V_name 0 x1 205 W) (R := fun W => f_X11_name 155 x1 W) e, i, rfl⟩
theorem tw_name {dk : DI} {x1 : Int32} {W : tq_H} (g : GI dk W) : Twin dk (dk.2.1) (fun _ u => u = dk.2.2) (fun W => f_L_name 0 x1 W) W := by
  refine twin_of (G := fun W => f_X10_name 0 x1 W) (G' := fun t H => f_X10_name t x1 H) (V := fun W => f_V_name 0 x1 205 W) (R := fun W => f_X11_name 155 x1 W) (cv := cI) (p := (pk3 "java/lang/IndexOutOfBoundsException" "" "")) (ok := (fun k => k = 1)) (wv := fun v => v) (we := wE) (EX := fun u W' => u = dk.2.2)
    (fun hE ht => y_X10_name ht hE) (fun hE ht => y_X11_name ht hE) (fun W k Wa h => v_name h) (fun W Wb v h0 h => ?_) (fun W Wb k hk h0 h => ?_) (fun v1 v2 h => toI64_inj h) (fun u W' k hx ht hk ho => hx) (fun u W' v hx ht ha => hx) (fun W h => ax_name h) g
  · unfold f_L_name
    rw [h0, Option.bind_some, h, Option.bind_some]
  · unfold f_L_name
    subst hk
    rw [pk3_1] at h ⊢
    rw [h0, Option.bind_some, h, Option.bind_some, wE_I]
    simp only [nAI, nSI, nSA, if_true, if_false]
theorem v_value {x1 : Int32} {W Wa : tq_H} {k : Int32} (h : f_V_value 0 x1 205 W = some (k, Wa)) : ∃ r Wb, tq_is W 0 10 = some () ∧ f_X10_value 0 x1 W = some (r, Wb) ∧ ((∃ v, r = .inr v ∧ k = 0 ∧ tq_sl Wb 205 0 (cI v) = some Wa) ∨ (r = .inl ((pk3 "java/lang/IndexOutOfBoundsException" "" "") k) ∧ k ≠ 0 ∧ (fun k => k = 1) k ∧ Wa = Wb)) := by
  unfold f_V_value at h
  obtain ⟨⟨⟩, e0, h⟩ := tq_be h
  obtain ⟨⟨r, Wb⟩, e, h⟩ := tq_be h
  refine ⟨r, Wb, e0, e, ?_⟩
  cases r with
  | inl E =>
    right
    dsimp only at h
    by_cases c0 : E = "java/lang/IndexOutOfBoundsException"
    · rw [if_pos c0] at h
      cases h
      exact ⟨by rw [c0, pk3_1], by decide, rfl, rfl⟩
    rw [if_neg c0] at h
    cases h
  | inr v =>
    left
    dsimp only at h
    obtain ⟨w, e5, h⟩ := tq_be h
    cases h
    exact ⟨v, rfl, rfl, e5⟩
theorem ax_value {dk : DI} {x1 : Int32} {W : tq_H} (h : InvE dk W) : ∃ W' u, AX (fun W => f_V_value 0 x1 205 W) (fun W => f_X11_value 155 x1 W) cI W W' ∧ InvE (dk.1, dk.2.1, u) W' ∧ u = dk.2.2 := by
  obtain ⟨W', e, i⟩ := arm_value (n := 5) (xs := (x5 x1 0 0 0)) (y4 := 0) h (sx1 x1 0 0 0)
  have e0 : f_V_law_c1072 5 (x5 x1 0 0 0) 0 155 205 0 W = armI (f_V_value 0 x1 205 W) (f_X11_value 155 x1) 0 := by
    unfold f_V_law_c1072
    rw [(sx1 x1 0 0 0)]; rfl
  rw [e0] at e
  exact ⟨W', dk.2.2, armI_x (V := fun W => f_V_value 0 x1 205 W) (R := fun W => f_X11_value 155 x1 W) e, i, rfl⟩
theorem tw_value {dk : DI} {x1 : Int32} {W : tq_H} (g : GI dk W) : Twin dk (dk.2.1) (fun _ u => u = dk.2.2) (fun W => f_L_value 0 x1 W) W := by
  refine twin_of (G := fun W => f_X10_value 0 x1 W) (G' := fun t H => f_X10_value t x1 H) (V := fun W => f_V_value 0 x1 205 W) (R := fun W => f_X11_value 155 x1 W) (cv := cI) (p := (pk3 "java/lang/IndexOutOfBoundsException" "" "")) (ok := (fun k => k = 1)) (wv := fun v => v) (we := wE) (EX := fun u W' => u = dk.2.2)
    (fun hE ht => y_X10_value ht hE) (fun hE ht => y_X11_value ht hE) (fun W k Wa h => v_value h) (fun W Wb v h0 h => ?_) (fun W Wb k hk h0 h => ?_) (fun v1 v2 h => toI64_inj h) (fun u W' k hx ht hk ho => hx) (fun u W' v hx ht ha => hx) (fun W h => ax_value h) g
  · unfold f_L_value
    rw [h0, Option.bind_some, h, Option.bind_some]
  · unfold f_L_value
    subst hk
    rw [pk3_1] at h ⊢
    rw [h0, Option.bind_some, h, Option.bind_some, wE_I]
    simp only [nAI, nSI, nSA, if_true, if_false]
theorem v_parent {x1 : Int32} {W Wa : tq_H} {k : Int32} (h : f_V_parent 0 x1 205 W = some (k, Wa)) : ∃ r Wb, tq_is W 0 10 = some () ∧ f_X10_parent 0 x1 W = some (r, Wb) ∧ ((∃ v, r = .inr v ∧ k = 0 ∧ tq_sl Wb 205 0 (cI v) = some Wa) ∨ (r = .inl ((pk3 "java/lang/IndexOutOfBoundsException" "" "") k) ∧ k ≠ 0 ∧ (fun k => k = 1) k ∧ Wa = Wb)) := by
  unfold f_V_parent at h
  obtain ⟨⟨⟩, e0, h⟩ := tq_be h
  obtain ⟨⟨r, Wb⟩, e, h⟩ := tq_be h
  refine ⟨r, Wb, e0, e, ?_⟩
  cases r with
  | inl E =>
    right
    dsimp only at h
    by_cases c0 : E = "java/lang/IndexOutOfBoundsException"
    · rw [if_pos c0] at h
      cases h
      exact ⟨by rw [c0, pk3_1], by decide, rfl, rfl⟩
    rw [if_neg c0] at h
    cases h
  | inr v =>
    left
    dsimp only at h
    obtain ⟨w, e5, h⟩ := tq_be h
    cases h
    exact ⟨v, rfl, rfl, e5⟩
theorem ax_parent {dk : DI} {x1 : Int32} {W : tq_H} (h : InvE dk W) : ∃ W' u, AX (fun W => f_V_parent 0 x1 205 W) (fun W => f_X11_parent 155 x1 W) cI W W' ∧ InvE (dk.1, dk.2.1, u) W' ∧ u = dk.2.2 := by
  obtain ⟨W', e, i⟩ := arm_parent (n := 5) (xs := (x5 x1 0 0 0)) (y4 := 0) h (sx1 x1 0 0 0)
  have e0 : f_V_law_c1128 5 (x5 x1 0 0 0) 0 155 205 0 W = armI (f_V_parent 0 x1 205 W) (f_X11_parent 155 x1) 0 := by
    unfold f_V_law_c1128
    rw [(sx1 x1 0 0 0)]; rfl
  rw [e0] at e
  exact ⟨W', dk.2.2, armI_x (V := fun W => f_V_parent 0 x1 205 W) (R := fun W => f_X11_parent 155 x1 W) e, i, rfl⟩
theorem tw_parent {dk : DI} {x1 : Int32} {W : tq_H} (g : GI dk W) : Twin dk (dk.2.1) (fun _ u => u = dk.2.2) (fun W => f_L_parent 0 x1 W) W := by
  refine twin_of (G := fun W => f_X10_parent 0 x1 W) (G' := fun t H => f_X10_parent t x1 H) (V := fun W => f_V_parent 0 x1 205 W) (R := fun W => f_X11_parent 155 x1 W) (cv := cI) (p := (pk3 "java/lang/IndexOutOfBoundsException" "" "")) (ok := (fun k => k = 1)) (wv := fun v => v) (we := wE) (EX := fun u W' => u = dk.2.2)
    (fun hE ht => y_X10_parent ht hE) (fun hE ht => y_X11_parent ht hE) (fun W k Wa h => v_parent h) (fun W Wb v h0 h => ?_) (fun W Wb k hk h0 h => ?_) (fun v1 v2 h => toI64_inj h) (fun u W' k hx ht hk ho => hx) (fun u W' v hx ht ha => hx) (fun W h => ax_parent h) g
  · unfold f_L_parent
    rw [h0, Option.bind_some, h, Option.bind_some]
  · unfold f_L_parent
    subst hk
    rw [pk3_1] at h ⊢
    rw [h0, Option.bind_some, h, Option.bind_some, wE_I]
    simp only [nAI, nSI, nSA, if_true, if_false]
theorem v_child {x1 x2 : Int32} {W Wa : tq_H} {k : Int32} (h : f_V_child 0 x1 x2 205 W = some (k, Wa)) : ∃ r Wb, tq_is W 0 10 = some () ∧ f_X10_child 0 x1 x2 W = some (r, Wb) ∧ ((∃ v, r = .inr v ∧ k = 0 ∧ tq_sl Wb 205 0 (cI v) = some Wa) ∨ (r = .inl ((pk3 "java/lang/IndexOutOfBoundsException" "" "") k) ∧ k ≠ 0 ∧ (fun k => k = 1) k ∧ Wa = Wb)) := by
  unfold f_V_child at h
  obtain ⟨⟨⟩, e0, h⟩ := tq_be h
  obtain ⟨⟨r, Wb⟩, e, h⟩ := tq_be h
  refine ⟨r, Wb, e0, e, ?_⟩
  cases r with
  | inl E =>
    right
    dsimp only at h
    by_cases c0 : E = "java/lang/IndexOutOfBoundsException"
    · rw [if_pos c0] at h
      cases h
      exact ⟨by rw [c0, pk3_1], by decide, rfl, rfl⟩
    rw [if_neg c0] at h
    cases h
  | inr v =>
    left
    dsimp only at h
    obtain ⟨w, e5, h⟩ := tq_be h
    cases h
    exact ⟨v, rfl, rfl, e5⟩
theorem ax_child {dk : DI} {x1 x2 : Int32} {W : tq_H} (h : InvE dk W) : ∃ W' u, AX (fun W => f_V_child 0 x1 x2 205 W) (fun W => f_X11_child 155 x1 x2 W) cI W W' ∧ InvE (dk.1, dk.2.1, u) W' ∧ u = dk.2.2 := by
  obtain ⟨W', e, i⟩ := arm_child (n := 5) (xs := (x5 x1 x2 0 0)) (y4 := 0) h (sx1 x1 x2 0 0) (sx2 x1 x2 0 0)
  have e0 : f_V_law_c1184 5 (x5 x1 x2 0 0) 0 155 205 0 W = armI (f_V_child 0 x1 x2 205 W) (f_X11_child 155 x1 x2) 0 := by
    unfold f_V_law_c1184
    rw [(sx1 x1 x2 0 0), (sx2 x1 x2 0 0)]; rfl
  rw [e0] at e
  exact ⟨W', dk.2.2, armI_x (V := fun W => f_V_child 0 x1 x2 205 W) (R := fun W => f_X11_child 155 x1 x2 W) e, i, rfl⟩
theorem tw_child {dk : DI} {x1 x2 : Int32} {W : tq_H} (g : GI dk W) : Twin dk (dk.2.1) (fun _ u => u = dk.2.2) (fun W => f_L_child 0 x1 x2 W) W := by
  refine twin_of (G := fun W => f_X10_child 0 x1 x2 W) (G' := fun t H => f_X10_child t x1 x2 H) (V := fun W => f_V_child 0 x1 x2 205 W) (R := fun W => f_X11_child 155 x1 x2 W) (cv := cI) (p := (pk3 "java/lang/IndexOutOfBoundsException" "" "")) (ok := (fun k => k = 1)) (wv := fun v => v) (we := wE) (EX := fun u W' => u = dk.2.2)
    (fun hE ht => y_X10_child ht hE) (fun hE ht => y_X11_child ht hE) (fun W k Wa h => v_child h) (fun W Wb v h0 h => ?_) (fun W Wb k hk h0 h => ?_) (fun v1 v2 h => toI64_inj h) (fun u W' k hx ht hk ho => hx) (fun u W' v hx ht ha => hx) (fun W h => ax_child h) g
  · unfold f_L_child
    rw [h0, Option.bind_some, h, Option.bind_some]
  · unfold f_L_child
    subst hk
    rw [pk3_1] at h ⊢
    rw [h0, Option.bind_some, h, Option.bind_some, wE_I]
    simp only [nAI, nSI, nSA, if_true, if_false]
theorem v_space {x1 : Int32} {W Wa : tq_H} {k : Int32} (h : f_V_space 0 x1 205 W = some (k, Wa)) : ∃ r Wb, tq_is W 0 10 = some () ∧ f_X10_space 0 x1 W = some (r, Wb) ∧ ((∃ v, r = .inr v ∧ k = 0 ∧ tq_sl Wb 205 0 (cI v) = some Wa) ∨ (r = .inl ((pk3 "java/lang/IndexOutOfBoundsException" "" "") k) ∧ k ≠ 0 ∧ (fun k => k = 1) k ∧ Wa = Wb)) := by
  unfold f_V_space at h
  obtain ⟨⟨⟩, e0, h⟩ := tq_be h
  obtain ⟨⟨r, Wb⟩, e, h⟩ := tq_be h
  refine ⟨r, Wb, e0, e, ?_⟩
  cases r with
  | inl E =>
    right
    dsimp only at h
    by_cases c0 : E = "java/lang/IndexOutOfBoundsException"
    · rw [if_pos c0] at h
      cases h
      exact ⟨by rw [c0, pk3_1], by decide, rfl, rfl⟩
    rw [if_neg c0] at h
    cases h
  | inr v =>
    left
    dsimp only at h
    obtain ⟨w, e5, h⟩ := tq_be h
    cases h
    exact ⟨v, rfl, rfl, e5⟩
theorem ax_space {dk : DI} {x1 : Int32} {W : tq_H} (h : InvE dk W) : ∃ W' u, AX (fun W => f_V_space 0 x1 205 W) (fun W => f_X11_space 155 x1 W) cI W W' ∧ InvE (dk.1, dk.2.1, u) W' ∧ u = dk.2.2 := by
  obtain ⟨W', e, i⟩ := arm_space (n := 5) (xs := (x5 x1 0 0 0)) (y4 := 0) h (sx1 x1 0 0 0)
  have e0 : f_V_law_c1252 5 (x5 x1 0 0 0) 0 155 205 0 W = armI (f_V_space 0 x1 205 W) (f_X11_space 155 x1) 0 := by
    unfold f_V_law_c1252
    rw [(sx1 x1 0 0 0)]; rfl
  rw [e0] at e
  exact ⟨W', dk.2.2, armI_x (V := fun W => f_V_space 0 x1 205 W) (R := fun W => f_X11_space 155 x1 W) e, i, rfl⟩
theorem tw_space {dk : DI} {x1 : Int32} {W : tq_H} (g : GI dk W) : Twin dk (dk.2.1) (fun _ u => u = dk.2.2) (fun W => f_L_space 0 x1 W) W := by
  refine twin_of (G := fun W => f_X10_space 0 x1 W) (G' := fun t H => f_X10_space t x1 H) (V := fun W => f_V_space 0 x1 205 W) (R := fun W => f_X11_space 155 x1 W) (cv := cI) (p := (pk3 "java/lang/IndexOutOfBoundsException" "" "")) (ok := (fun k => k = 1)) (wv := fun v => v) (we := wE) (EX := fun u W' => u = dk.2.2)
    (fun hE ht => y_X10_space ht hE) (fun hE ht => y_X11_space ht hE) (fun W k Wa h => v_space h) (fun W Wb v h0 h => ?_) (fun W Wb k hk h0 h => ?_) (fun v1 v2 h => toI64_inj h) (fun u W' k hx ht hk ho => hx) (fun u W' v hx ht ha => hx) (fun W h => ax_space h) g
  · unfold f_L_space
    rw [h0, Option.bind_some, h, Option.bind_some]
  · unfold f_L_space
    subst hk
    rw [pk3_1] at h ⊢
    rw [h0, Option.bind_some, h, Option.bind_some, wE_I]
    simp only [nAI, nSI, nSA, if_true, if_false]
theorem v_number {x1 : Int32} {W Wa : tq_H} {k : Int32} (h : f_V_number 0 x1 205 W = some (k, Wa)) : ∃ r Wb, tq_is W 0 10 = some () ∧ f_X10_number 0 x1 W = some (r, Wb) ∧ ((∃ v, r = .inr v ∧ k = 0 ∧ tq_sl Wb 205 0 (cI v) = some Wa) ∨ (r = .inl ((pk3 "java/lang/IndexOutOfBoundsException" "" "") k) ∧ k ≠ 0 ∧ (fun k => k = 1) k ∧ Wa = Wb)) := by
  unfold f_V_number at h
  obtain ⟨⟨⟩, e0, h⟩ := tq_be h
  obtain ⟨⟨r, Wb⟩, e, h⟩ := tq_be h
  refine ⟨r, Wb, e0, e, ?_⟩
  cases r with
  | inl E =>
    right
    dsimp only at h
    by_cases c0 : E = "java/lang/IndexOutOfBoundsException"
    · rw [if_pos c0] at h
      cases h
      exact ⟨by rw [c0, pk3_1], by decide, rfl, rfl⟩
    rw [if_neg c0] at h
    cases h
  | inr v =>
    left
    dsimp only at h
    obtain ⟨w, e5, h⟩ := tq_be h
    cases h
    exact ⟨v, rfl, rfl, e5⟩
theorem ax_number {dk : DI} {x1 : Int32} {W : tq_H} (h : InvE dk W) : ∃ W' u, AX (fun W => f_V_number 0 x1 205 W) (fun W => f_X11_number_ 155 x1 W) cI W W' ∧ InvE (dk.1, dk.2.1, u) W' ∧ u = dk.2.2 := by
  obtain ⟨W', e, i⟩ := arm_number (n := 5) (xs := (x5 x1 0 0 0)) (y4 := 0) h (sx1 x1 0 0 0)
  have e0 : f_V_law_c1308 5 (x5 x1 0 0 0) 0 155 205 0 W = armI (f_V_number 0 x1 205 W) (f_X11_number_ 155 x1) 0 := by
    unfold f_V_law_c1308
    rw [(sx1 x1 0 0 0)]; rfl
  rw [e0] at e
  exact ⟨W', dk.2.2, armI_x (V := fun W => f_V_number 0 x1 205 W) (R := fun W => f_X11_number_ 155 x1 W) e, i, rfl⟩
theorem tw_number {dk : DI} {x1 : Int32} {W : tq_H} (g : GI dk W) : Twin dk (dk.2.1) (fun _ u => u = dk.2.2) (fun W => f_L_number 0 x1 W) W := by
  refine twin_of (G := fun W => f_X10_number 0 x1 W) (G' := fun t H => f_X10_number t x1 H) (V := fun W => f_V_number 0 x1 205 W) (R := fun W => f_X11_number_ 155 x1 W) (cv := cI) (p := (pk3 "java/lang/IndexOutOfBoundsException" "" "")) (ok := (fun k => k = 1)) (wv := fun v => v) (we := wE) (EX := fun u W' => u = dk.2.2)
    (fun hE ht => y_X10_number ht hE) (fun hE ht => y_X11_number_ ht hE) (fun W k Wa h => v_number h) (fun W Wb v h0 h => ?_) (fun W Wb k hk h0 h => ?_) (fun v1 v2 h => toI64_inj h) (fun u W' k hx ht hk ho => hx) (fun u W' v hx ht ha => hx) (fun W h => ax_number h) g
  · unfold f_L_number
    rw [h0, Option.bind_some, h, Option.bind_some]
  · unfold f_L_number
    subst hk
    rw [pk3_1] at h ⊢
    rw [h0, Option.bind_some, h, Option.bind_some, wE_I]
    simp only [nAI, nSI, nSA, if_true, if_false]
theorem v_path {W Wa : tq_H} {k : Int32} (h : f_V_path 0 205 W = some (k, Wa)) : ∃ r Wb, tq_is W 0 10 = some () ∧ f_X10_path 0 W = some (r, Wb) ∧ ((∃ v, r = .inr v ∧ k = 0 ∧ tq_sl Wb 205 0 (cI v) = some Wa) ∨ (r = .inl ((pk3 "java/lang/IllegalStateException" "" "") k) ∧ k ≠ 0 ∧ (fun k => k = 1) k ∧ Wa = Wb)) := by
  unfold f_V_path at h
  obtain ⟨⟨⟩, e0, h⟩ := tq_be h
  obtain ⟨⟨r, Wb⟩, e, h⟩ := tq_be h
  refine ⟨r, Wb, e0, e, ?_⟩
  cases r with
  | inl E =>
    right
    dsimp only at h
    by_cases c0 : E = "java/lang/IllegalStateException"
    · rw [if_pos c0] at h
      cases h
      exact ⟨by rw [c0, pk3_1], by decide, rfl, rfl⟩
    rw [if_neg c0] at h
    cases h
  | inr v =>
    left
    dsimp only at h
    obtain ⟨w, e5, h⟩ := tq_be h
    cases h
    exact ⟨v, rfl, rfl, e5⟩
theorem ax_path {dk : DI} {W : tq_H} (h : InvE dk W) : ∃ W' u, AX (fun W => f_V_path 0 205 W) (fun W => f_X11_path 155 W) cI W W' ∧ InvE (dk.1, dk.2.1, u) W' ∧ u = dk.2.2 := by
  obtain ⟨W', e, i⟩ := arm_path (n := 5) (xs := (x5 0 0 0 0)) (y4 := 0) h
  have e0 : f_V_law_c1377 5 (x5 0 0 0 0) 0 155 205 0 W = armI (f_V_path 0 205 W) (f_X11_path 155) 0 := by
    unfold f_V_law_c1377
    rfl
  rw [e0] at e
  exact ⟨W', dk.2.2, armI_x (V := fun W => f_V_path 0 205 W) (R := fun W => f_X11_path 155 W) e, i, rfl⟩
theorem tw_path {dk : DI} {W : tq_H} (g : GI dk W) : Twin dk (dk.2.1) (fun _ u => u = dk.2.2) (fun W => f_L_path 0 W) W := by
  refine twin_of (G := fun W => f_X10_path 0 W) (G' := fun t H => f_X10_path t H) (V := fun W => f_V_path 0 205 W) (R := fun W => f_X11_path 155 W) (cv := cI) (p := (pk3 "java/lang/IllegalStateException" "" "")) (ok := (fun k => k = 1)) (wv := fun v => v) (we := wE) (EX := fun u W' => u = dk.2.2)
    (fun hE ht => y_X10_path ht hE) (fun hE ht => y_X11_path ht hE) (fun W k Wa h => v_path h) (fun W Wb v h0 h => ?_) (fun W Wb k hk h0 h => ?_) (fun v1 v2 h => toI64_inj h) (fun u W' k hx ht hk ho => hx) (fun u W' v hx ht ha => hx) (fun W h => ax_path h) g
  · unfold f_L_path
    rw [h0, Option.bind_some, h, Option.bind_some]
  · unfold f_L_path
    subst hk
    rw [pk3_1] at h ⊢
    rw [h0, Option.bind_some, h, Option.bind_some, wE_S]
    simp only [nAI, nSI, nSA, if_true, if_false]
theorem v_step {x1 x2 x3 x4 : Int32} {W Wa : tq_H} {k : Int32} (h : f_V_step 0 x1 x2 x3 x4 205 W = some (k, Wa)) : ∃ r Wb, tq_is W 0 10 = some () ∧ f_X10_step 0 x1 x2 x3 x4 W = some (r, Wb) ∧ ((∃ v, r = .inr v ∧ k = 0 ∧ tq_sl Wb 205 0 (cI v) = some Wa) ∨ (r = .inl ((pk3 "java/lang/IndexOutOfBoundsException" "java/lang/IllegalArgumentException" "java/lang/IllegalStateException") k) ∧ k ≠ 0 ∧ (fun k => k = 1 ∨ k = 2 ∨ k = 3) k ∧ Wa = Wb)) := by
  unfold f_V_step at h
  obtain ⟨⟨⟩, e0, h⟩ := tq_be h
  obtain ⟨⟨r, Wb⟩, e, h⟩ := tq_be h
  refine ⟨r, Wb, e0, e, ?_⟩
  cases r with
  | inl E =>
    right
    dsimp only at h
    by_cases c0 : E = "java/lang/IndexOutOfBoundsException"
    · rw [if_pos c0] at h
      cases h
      exact ⟨by rw [c0, pk3_1], by decide, Or.inl rfl, rfl⟩
    rw [if_neg c0] at h
    by_cases c1 : E = "java/lang/IllegalArgumentException"
    · rw [if_pos c1] at h
      cases h
      exact ⟨by rw [c1, pk3_2], by decide, Or.inr (Or.inl rfl), rfl⟩
    rw [if_neg c1] at h
    by_cases c2 : E = "java/lang/IllegalStateException"
    · rw [if_pos c2] at h
      cases h
      exact ⟨by rw [c2, pk3_3], by decide, Or.inr (Or.inr (rfl)), rfl⟩
    rw [if_neg c2] at h
    cases h
  | inr v =>
    left
    dsimp only at h
    obtain ⟨w, e5, h⟩ := tq_be h
    cases h
    exact ⟨v, rfl, rfl, e5⟩
theorem ax_step {dk : DI} {x1 x2 x3 x4 : Int32} {W : tq_H} (h : InvE dk W) : ∃ W' u, AX (fun W => f_V_step 0 x1 x2 x3 x4 205 W) (fun W => f_X11_step 155 x1 x2 x3 x4 W) cI W W' ∧ InvE (dk.1, dk.2.1, u) W' ∧ u = dk.2.2 := by
  obtain ⟨W', e, i⟩ := arm_step (n := 5) (xs := (x5 x1 x2 x3 x4)) (y4 := 0) h (sx1 x1 x2 x3 x4) (sx2 x1 x2 x3 x4) (sx3 x1 x2 x3 x4) (sx4 x1 x2 x3 x4)
  have e0 : f_V_law_c1421 5 (x5 x1 x2 x3 x4) 0 155 205 0 W = armI (f_V_step 0 x1 x2 x3 x4 205 W) (f_X11_step 155 x1 x2 x3 x4) 0 := by
    unfold f_V_law_c1421
    rw [(sx1 x1 x2 x3 x4), (sx2 x1 x2 x3 x4), (sx3 x1 x2 x3 x4), (sx4 x1 x2 x3 x4)]; rfl
  rw [e0] at e
  exact ⟨W', dk.2.2, armI_x (V := fun W => f_V_step 0 x1 x2 x3 x4 205 W) (R := fun W => f_X11_step 155 x1 x2 x3 x4 W) e, i, rfl⟩
theorem tw_step {dk : DI} {x1 x2 x3 x4 : Int32} {W : tq_H} (g : GI dk W) : Twin dk (dk.2.1) (fun _ u => u = dk.2.2) (fun W => f_L_step 0 x1 x2 x3 x4 W) W := by
  refine twin_of (G := fun W => f_X10_step 0 x1 x2 x3 x4 W) (G' := fun t H => f_X10_step t x1 x2 x3 x4 H) (V := fun W => f_V_step 0 x1 x2 x3 x4 205 W) (R := fun W => f_X11_step 155 x1 x2 x3 x4 W) (cv := cI) (p := (pk3 "java/lang/IndexOutOfBoundsException" "java/lang/IllegalArgumentException" "java/lang/IllegalStateException")) (ok := (fun k => k = 1 ∨ k = 2 ∨ k = 3)) (wv := fun v => v) (we := wE) (EX := fun u W' => u = dk.2.2)
    (fun hE ht => y_X10_step ht hE) (fun hE ht => y_X11_step ht hE) (fun W k Wa h => v_step h) (fun W Wb v h0 h => ?_) (fun W Wb k hk h0 h => ?_) (fun v1 v2 h => toI64_inj h) (fun u W' k hx ht hk ho => hx) (fun u W' v hx ht ha => hx) (fun W h => ax_step h) g
  · unfold f_L_step
    rw [h0, Option.bind_some, h, Option.bind_some]
  · unfold f_L_step
    rcases hk with rfl | rfl | rfl
    · rw [pk3_1] at h ⊢
      rw [h0, Option.bind_some, h, Option.bind_some, wE_I]
      simp only [nAI, nSI, nSA, if_true, if_false]
    · rw [pk3_2] at h ⊢
      rw [h0, Option.bind_some, h, Option.bind_some, wE_A]
      simp only [nAI, nSI, nSA, if_true, if_false]
    · rw [pk3_3] at h ⊢
      rw [h0, Option.bind_some, h, Option.bind_some, wE_S]
      simp only [nAI, nSI, nSA, if_true, if_false]
theorem v_place {x1 x2 x3 : Int32} {W Wa : tq_H} {k : Int32} (h : f_V_place 0 x1 x2 x3 205 W = some (k, Wa)) : ∃ r Wb, tq_is W 0 10 = some () ∧ f_X10_place 0 x1 x2 x3 W = some (r, Wb) ∧ ((∃ v, r = .inr v ∧ k = 0 ∧ tq_sl Wb 205 0 (cI v) = some Wa) ∨ (r = .inl ((pk3 "java/lang/IndexOutOfBoundsException" "java/lang/IllegalArgumentException" "java/lang/IllegalStateException") k) ∧ k ≠ 0 ∧ (fun k => k = 1 ∨ k = 2 ∨ k = 3) k ∧ Wa = Wb)) := by
  unfold f_V_place at h
  obtain ⟨⟨⟩, e0, h⟩ := tq_be h
  obtain ⟨⟨r, Wb⟩, e, h⟩ := tq_be h
  refine ⟨r, Wb, e0, e, ?_⟩
  cases r with
  | inl E =>
    right
    dsimp only at h
    by_cases c0 : E = "java/lang/IndexOutOfBoundsException"
    · rw [if_pos c0] at h
      cases h
      exact ⟨by rw [c0, pk3_1], by decide, Or.inl rfl, rfl⟩
    rw [if_neg c0] at h
    by_cases c1 : E = "java/lang/IllegalArgumentException"
    · rw [if_pos c1] at h
      cases h
      exact ⟨by rw [c1, pk3_2], by decide, Or.inr (Or.inl rfl), rfl⟩
    rw [if_neg c1] at h
    by_cases c2 : E = "java/lang/IllegalStateException"
    · rw [if_pos c2] at h
      cases h
      exact ⟨by rw [c2, pk3_3], by decide, Or.inr (Or.inr (rfl)), rfl⟩
    rw [if_neg c2] at h
    cases h
  | inr v =>
    left
    dsimp only at h
    obtain ⟨w, e5, h⟩ := tq_be h
    cases h
    exact ⟨v, rfl, rfl, e5⟩
theorem ax_place {dk : DI} {x1 x2 x3 : Int32} {W : tq_H} (h : InvE dk W) : ∃ W' u, AX (fun W => f_V_place 0 x1 x2 x3 205 W) (fun W => f_X11_place 155 x1 x2 x3 W) cI W W' ∧ InvE (dk.1, dk.2.1, u) W' ∧ u = dk.2.2 := by
  obtain ⟨W', e, i⟩ := arm_place (n := 5) (xs := (x5 x1 x2 x3 0)) (y4 := 0) h (sx1 x1 x2 x3 0) (sx2 x1 x2 x3 0) (sx3 x1 x2 x3 0)
  have e0 : f_V_law_c1513 5 (x5 x1 x2 x3 0) 0 155 205 0 W = armI (f_V_place 0 x1 x2 x3 205 W) (f_X11_place 155 x1 x2 x3) 0 := by
    unfold f_V_law_c1513
    rw [(sx1 x1 x2 x3 0), (sx2 x1 x2 x3 0), (sx3 x1 x2 x3 0)]; rfl
  rw [e0] at e
  exact ⟨W', dk.2.2, armI_x (V := fun W => f_V_place 0 x1 x2 x3 205 W) (R := fun W => f_X11_place 155 x1 x2 x3 W) e, i, rfl⟩
theorem tw_place {dk : DI} {x1 x2 x3 : Int32} {W : tq_H} (g : GI dk W) : Twin dk (dk.2.1) (fun _ u => u = dk.2.2) (fun W => f_L_place 0 x1 x2 x3 W) W := by
  refine twin_of (G := fun W => f_X10_place 0 x1 x2 x3 W) (G' := fun t H => f_X10_place t x1 x2 x3 H) (V := fun W => f_V_place 0 x1 x2 x3 205 W) (R := fun W => f_X11_place 155 x1 x2 x3 W) (cv := cI) (p := (pk3 "java/lang/IndexOutOfBoundsException" "java/lang/IllegalArgumentException" "java/lang/IllegalStateException")) (ok := (fun k => k = 1 ∨ k = 2 ∨ k = 3)) (wv := fun v => v) (we := wE) (EX := fun u W' => u = dk.2.2)
    (fun hE ht => y_X10_place ht hE) (fun hE ht => y_X11_place ht hE) (fun W k Wa h => v_place h) (fun W Wb v h0 h => ?_) (fun W Wb k hk h0 h => ?_) (fun v1 v2 h => toI64_inj h) (fun u W' k hx ht hk ho => hx) (fun u W' v hx ht ha => hx) (fun W h => ax_place h) g
  · unfold f_L_place
    rw [h0, Option.bind_some, h, Option.bind_some]
  · unfold f_L_place
    rcases hk with rfl | rfl | rfl
    · rw [pk3_1] at h ⊢
      rw [h0, Option.bind_some, h, Option.bind_some, wE_I]
      simp only [nAI, nSI, nSA, if_true, if_false]
    · rw [pk3_2] at h ⊢
      rw [h0, Option.bind_some, h, Option.bind_some, wE_A]
      simp only [nAI, nSI, nSA, if_true, if_false]
    · rw [pk3_3] at h ⊢
      rw [h0, Option.bind_some, h, Option.bind_some, wE_S]
      simp only [nAI, nSI, nSA, if_true, if_false]
theorem v_last {x1 : Int32} {W Wa : tq_H} {k : Int32} (h : f_V_last 0 x1 205 W = some (k, Wa)) : ∃ r Wb, tq_is W 0 10 = some () ∧ f_X10_last 0 x1 W = some (r, Wb) ∧ ((∃ v, r = .inr v ∧ k = 0 ∧ tq_sl Wb 205 0 (cI v) = some Wa) ∨ (r = .inl ((pk3 "java/lang/IndexOutOfBoundsException" "java/lang/IllegalStateException" "") k) ∧ k ≠ 0 ∧ (fun k => k = 1 ∨ k = 2) k ∧ Wa = Wb)) := by
  unfold f_V_last at h
  obtain ⟨⟨⟩, e0, h⟩ := tq_be h
  obtain ⟨⟨r, Wb⟩, e, h⟩ := tq_be h
  refine ⟨r, Wb, e0, e, ?_⟩
  cases r with
  | inl E =>
    right
    dsimp only at h
    by_cases c0 : E = "java/lang/IndexOutOfBoundsException"
    · rw [if_pos c0] at h
      cases h
      exact ⟨by rw [c0, pk3_1], by decide, Or.inl rfl, rfl⟩
    rw [if_neg c0] at h
    by_cases c1 : E = "java/lang/IllegalStateException"
    · rw [if_pos c1] at h
      cases h
      exact ⟨by rw [c1, pk3_2], by decide, Or.inr (rfl), rfl⟩
    rw [if_neg c1] at h
    cases h
  | inr v =>
    left
    dsimp only at h
    obtain ⟨w, e5, h⟩ := tq_be h
    cases h
    exact ⟨v, rfl, rfl, e5⟩
theorem ax_last {dk : DI} {x1 : Int32} {W : tq_H} (h : InvE dk W) : ∃ W' u, AX (fun W => f_V_last 0 x1 205 W) (fun W => f_X11_last 155 x1 W) cI W W' ∧ InvE (dk.1, dk.2.1, u) W' ∧ u = dk.2.2 := by
  obtain ⟨W', e, i⟩ := arm_last (n := 5) (xs := (x5 x1 0 0 0)) (y4 := 0) h (sx1 x1 0 0 0)
  have e0 : f_V_law_c1593 5 (x5 x1 0 0 0) 0 155 205 0 W = armI (f_V_last 0 x1 205 W) (f_X11_last 155 x1) 0 := by
    unfold f_V_law_c1593
    rw [(sx1 x1 0 0 0)]; rfl
  rw [e0] at e
  exact ⟨W', dk.2.2, armI_x (V := fun W => f_V_last 0 x1 205 W) (R := fun W => f_X11_last 155 x1 W) e, i, rfl⟩
theorem tw_last {dk : DI} {x1 : Int32} {W : tq_H} (g : GI dk W) : Twin dk (dk.2.1) (fun _ u => u = dk.2.2) (fun W => f_L_last 0 x1 W) W := by
  refine twin_of (G := fun W => f_X10_last 0 x1 W) (G' := fun t H => f_X10_last t x1 H) (V := fun W => f_V_last 0 x1 205 W) (R := fun W => f_X11_last 155 x1 W) (cv := cI) (p := (pk3 "java/lang/IndexOutOfBoundsException" "java/lang/IllegalStateException" "")) (ok := (fun k => k = 1 ∨ k = 2)) (wv := fun v => v) (we := wE) (EX := fun u W' => u = dk.2.2)
    (fun hE ht => y_X10_last ht hE) (fun hE ht => y_X11_last ht hE) (fun W k Wa h => v_last h) (fun W Wb v h0 h => ?_) (fun W Wb k hk h0 h => ?_) (fun v1 v2 h => toI64_inj h) (fun u W' k hx ht hk ho => hx) (fun u W' v hx ht ha => hx) (fun W h => ax_last h) g
  · unfold f_L_last
    rw [h0, Option.bind_some, h, Option.bind_some]
  · unfold f_L_last
    rcases hk with rfl | rfl
    · rw [pk3_1] at h ⊢
      rw [h0, Option.bind_some, h, Option.bind_some, wE_I]
      simp only [nAI, nSI, nSA, if_true, if_false]
    · rw [pk3_2] at h ⊢
      rw [h0, Option.bind_some, h, Option.bind_some, wE_S]
      simp only [nAI, nSI, nSA, if_true, if_false]
theorem v_has {x1 x2 x3 : Int32} {W Wa : tq_H} {k : Int32} (h : f_V_has 0 x1 x2 x3 205 W = some (k, Wa)) : ∃ r Wb, tq_is W 0 10 = some () ∧ f_X10_has 0 x1 x2 x3 W = some (r, Wb) ∧ ((∃ v, r = .inr v ∧ k = 0 ∧ tq_sl Wb 205 0 (cI v) = some Wa) ∨ (r = .inl ((pk3 "java/lang/IndexOutOfBoundsException" "java/lang/IllegalStateException" "") k) ∧ k ≠ 0 ∧ (fun k => k = 1 ∨ k = 2) k ∧ Wa = Wb)) := by
  unfold f_V_has at h
  obtain ⟨⟨⟩, e0, h⟩ := tq_be h
  obtain ⟨⟨r, Wb⟩, e, h⟩ := tq_be h
  refine ⟨r, Wb, e0, e, ?_⟩
  cases r with
  | inl E =>
    right
    dsimp only at h
    by_cases c0 : E = "java/lang/IndexOutOfBoundsException"
    · rw [if_pos c0] at h
      cases h
      exact ⟨by rw [c0, pk3_1], by decide, Or.inl rfl, rfl⟩
    rw [if_neg c0] at h
    by_cases c1 : E = "java/lang/IllegalStateException"
    · rw [if_pos c1] at h
      cases h
      exact ⟨by rw [c1, pk3_2], by decide, Or.inr (rfl), rfl⟩
    rw [if_neg c1] at h
    cases h
  | inr v =>
    left
    dsimp only at h
    obtain ⟨w, e5, h⟩ := tq_be h
    cases h
    exact ⟨v, rfl, rfl, e5⟩
theorem ax_has {dk : DI} {x1 x2 x3 : Int32} {W : tq_H} (h : InvE dk W) (hb : x3 = 0 ∨ x3 = 1) : ∃ W' u, AX (fun W => f_V_has 0 x1 x2 x3 205 W) (fun W => f_X11_has 155 x1 x2 x3 W) cI W W' ∧ InvE (dk.1, dk.2.1, u) W' ∧ u = dk.2.2 := by
  obtain ⟨W', e, i⟩ := arm_has (n := 5) (xs := (x5 x1 x2 x3 0)) (y4 := 0) h (sx1 x1 x2 x3 0) (sx2 x1 x2 x3 0) (sx3 x1 x2 x3 0)
  have hz : (if x3 = 0 then (0 : Int32) else 1) = x3 := by rcases hb with rfl | rfl <;> rfl
  have e0 : f_V_law_c1649 5 (x5 x1 x2 x3 0) 0 155 205 0 W = armI (f_V_has 0 x1 x2 x3 205 W) (f_X11_has 155 x1 x2 x3) 0 := by
    rcases hb with rfl | rfl
    · unfold f_V_law_c1649; rw [sx1 _ _ _ _, sx2 _ _ _ _, sx3 _ _ _ _]; rfl
    · unfold f_V_law_c1649; rw [sx1 _ _ _ _, sx2 _ _ _ _, sx3 _ _ _ _]; rfl
  rw [e0] at e
  exact ⟨W', dk.2.2, armI_x (V := fun W => f_V_has 0 x1 x2 x3 205 W) (R := fun W => f_X11_has 155 x1 x2 x3 W) e, i, rfl⟩
theorem tw_has {dk : DI} {x1 x2 x3 : Int32} {W : tq_H} (g : GI dk W) (hb : x3 = 0 ∨ x3 = 1) : Twin dk (dk.2.1) (fun _ u => u = dk.2.2) (fun W => f_L_has 0 x1 x2 x3 W) W := by
  refine twin_of (G := fun W => f_X10_has 0 x1 x2 x3 W) (G' := fun t H => f_X10_has t x1 x2 x3 H) (V := fun W => f_V_has 0 x1 x2 x3 205 W) (R := fun W => f_X11_has 155 x1 x2 x3 W) (cv := cI) (p := (pk3 "java/lang/IndexOutOfBoundsException" "java/lang/IllegalStateException" "")) (ok := (fun k => k = 1 ∨ k = 2)) (wv := fun v => v) (we := wE) (EX := fun u W' => u = dk.2.2)
    (fun hE ht => y_X10_has ht hE) (fun hE ht => y_X11_has ht hE) (fun W k Wa h => v_has h) (fun W Wb v h0 h => ?_) (fun W Wb k hk h0 h => ?_) (fun v1 v2 h => toI64_inj h) (fun u W' k hx ht hk ho => hx) (fun u W' v hx ht ha => hx) (fun W h => ax_has h hb) g
  · unfold f_L_has
    rw [h0, Option.bind_some, h, Option.bind_some]
  · unfold f_L_has
    rcases hk with rfl | rfl
    · rw [pk3_1] at h ⊢
      rw [h0, Option.bind_some, h, Option.bind_some, wE_I]
      simp only [nAI, nSI, nSA, if_true, if_false]
    · rw [pk3_2] at h ⊢
      rw [h0, Option.bind_some, h, Option.bind_some, wE_S]
      simp only [nAI, nSI, nSA, if_true, if_false]
theorem v_worth {x1 x2 x3 x4 : Int32} {W Wa : tq_H} {k : Int32} (h : f_V_worth 0 x1 x2 x3 x4 205 W = some (k, Wa)) : ∃ r Wb, tq_is W 0 10 = some () ∧ f_X10_worth 0 x1 x2 x3 x4 W = some (r, Wb) ∧ ((∃ v, r = .inr v ∧ k = 0 ∧ tq_sl Wb 205 0 (cI v) = some Wa) ∨ (r = .inl ((pk3 "java/lang/IndexOutOfBoundsException" "java/lang/IllegalArgumentException" "java/lang/IllegalStateException") k) ∧ k ≠ 0 ∧ (fun k => k = 1 ∨ k = 2 ∨ k = 3) k ∧ Wa = Wb)) := by
  unfold f_V_worth at h
  obtain ⟨⟨⟩, e0, h⟩ := tq_be h
  obtain ⟨⟨r, Wb⟩, e, h⟩ := tq_be h
  refine ⟨r, Wb, e0, e, ?_⟩
  cases r with
  | inl E =>
    right
    dsimp only at h
    by_cases c0 : E = "java/lang/IndexOutOfBoundsException"
    · rw [if_pos c0] at h
      cases h
      exact ⟨by rw [c0, pk3_1], by decide, Or.inl rfl, rfl⟩
    rw [if_neg c0] at h
    by_cases c1 : E = "java/lang/IllegalArgumentException"
    · rw [if_pos c1] at h
      cases h
      exact ⟨by rw [c1, pk3_2], by decide, Or.inr (Or.inl rfl), rfl⟩
    rw [if_neg c1] at h
    by_cases c2 : E = "java/lang/IllegalStateException"
    · rw [if_pos c2] at h
      cases h
      exact ⟨by rw [c2, pk3_3], by decide, Or.inr (Or.inr (rfl)), rfl⟩
    rw [if_neg c2] at h
    cases h
  | inr v =>
    left
    dsimp only at h
    obtain ⟨w, e5, h⟩ := tq_be h
    cases h
    exact ⟨v, rfl, rfl, e5⟩
theorem ax_worth {dk : DI} {x1 x2 x3 x4 : Int32} {W : tq_H} (h : InvE dk W) : ∃ W' u, AX (fun W => f_V_worth 0 x1 x2 x3 x4 205 W) (fun W => f_X11_worth 155 x1 x2 x3 x4 W) cI W W' ∧ InvE (dk.1, dk.2.1, u) W' ∧ u = dk.2.2 := by
  obtain ⟨W', e, i⟩ := arm_worth (n := 5) (xs := (x5 x1 x2 x3 x4)) (y4 := 0) h (sx1 x1 x2 x3 x4) (sx2 x1 x2 x3 x4) (sx3 x1 x2 x3 x4) (sx4 x1 x2 x3 x4)
  have e0 : f_V_law_c1745 5 (x5 x1 x2 x3 x4) 0 155 205 0 W = armI (f_V_worth 0 x1 x2 x3 x4 205 W) (f_X11_worth 155 x1 x2 x3 x4) 0 := by
    unfold f_V_law_c1745
    rw [(sx1 x1 x2 x3 x4), (sx2 x1 x2 x3 x4), (sx3 x1 x2 x3 x4), (sx4 x1 x2 x3 x4)]; rfl
  rw [e0] at e
  exact ⟨W', dk.2.2, armI_x (V := fun W => f_V_worth 0 x1 x2 x3 x4 205 W) (R := fun W => f_X11_worth 155 x1 x2 x3 x4 W) e, i, rfl⟩
theorem tw_worth {dk : DI} {x1 x2 x3 x4 : Int32} {W : tq_H} (g : GI dk W) : Twin dk (dk.2.1) (fun _ u => u = dk.2.2) (fun W => f_L_worth 0 x1 x2 x3 x4 W) W := by
  refine twin_of (G := fun W => f_X10_worth 0 x1 x2 x3 x4 W) (G' := fun t H => f_X10_worth t x1 x2 x3 x4 H) (V := fun W => f_V_worth 0 x1 x2 x3 x4 205 W) (R := fun W => f_X11_worth 155 x1 x2 x3 x4 W) (cv := cI) (p := (pk3 "java/lang/IndexOutOfBoundsException" "java/lang/IllegalArgumentException" "java/lang/IllegalStateException")) (ok := (fun k => k = 1 ∨ k = 2 ∨ k = 3)) (wv := fun v => v) (we := wE) (EX := fun u W' => u = dk.2.2)
    (fun hE ht => y_X10_worth ht hE) (fun hE ht => y_X11_worth ht hE) (fun W k Wa h => v_worth h) (fun W Wb v h0 h => ?_) (fun W Wb k hk h0 h => ?_) (fun v1 v2 h => toI64_inj h) (fun u W' k hx ht hk ho => hx) (fun u W' v hx ht ha => hx) (fun W h => ax_worth h) g
  · unfold f_L_worth
    rw [h0, Option.bind_some, h, Option.bind_some]
  · unfold f_L_worth
    rcases hk with rfl | rfl | rfl
    · rw [pk3_1] at h ⊢
      rw [h0, Option.bind_some, h, Option.bind_some, wE_I]
      simp only [nAI, nSI, nSA, if_true, if_false]
    · rw [pk3_2] at h ⊢
      rw [h0, Option.bind_some, h, Option.bind_some, wE_A]
      simp only [nAI, nSI, nSA, if_true, if_false]
    · rw [pk3_3] at h ⊢
      rw [h0, Option.bind_some, h, Option.bind_some, wE_S]
      simp only [nAI, nSI, nSA, if_true, if_false]
theorem v_found {x1 x2 : Int32} {W Wa : tq_H} {k : Int32} (h : f_V_found 0 x1 x2 205 W = some (k, Wa)) : ∃ r Wb, tq_is W 0 10 = some () ∧ f_X10_found 0 x1 x2 W = some (r, Wb) ∧ ((∃ v, r = .inr v ∧ k = 0 ∧ tq_sl Wb 205 0 (cI v) = some Wa) ∨ (r = .inl ((pk3 "java/lang/IndexOutOfBoundsException" "" "") k) ∧ k ≠ 0 ∧ (fun k => k = 1) k ∧ Wa = Wb)) := by
  unfold f_V_found at h
  obtain ⟨⟨⟩, e0, h⟩ := tq_be h
  obtain ⟨⟨r, Wb⟩, e, h⟩ := tq_be h
  refine ⟨r, Wb, e0, e, ?_⟩
  cases r with
  | inl E =>
    right
    dsimp only at h
    by_cases c0 : E = "java/lang/IndexOutOfBoundsException"
    · rw [if_pos c0] at h
      cases h
      exact ⟨by rw [c0, pk3_1], by decide, rfl, rfl⟩
    rw [if_neg c0] at h
    cases h
  | inr v =>
    left
    dsimp only at h
    obtain ⟨w, e5, h⟩ := tq_be h
    cases h
    exact ⟨v, rfl, rfl, e5⟩
theorem ax_found {dk : DI} {x1 x2 : Int32} {W : tq_H} (h : InvE dk W) : ∃ W' u, AX (fun W => f_V_found 0 x1 x2 205 W) (fun W => f_X11_found 155 x1 x2 W) cI W W' ∧ InvE (dk.1, dk.2.1, u) W' ∧ u = dk.2.2 := by
  obtain ⟨W', e, i⟩ := arm_found (n := 5) (xs := (x5 x1 x2 0 0)) (y4 := 0) h (sx1 x1 x2 0 0) (sx2 x1 x2 0 0)
  have e0 : f_V_law_c1891 5 (x5 x1 x2 0 0) 0 155 205 0 W = armI (f_V_found 0 x1 x2 205 W) (f_X11_found 155 x1 x2) 0 := by
    unfold f_V_law_c1891
    rw [(sx1 x1 x2 0 0), (sx2 x1 x2 0 0)]; rfl
  rw [e0] at e
  exact ⟨W', dk.2.2, armI_x (V := fun W => f_V_found 0 x1 x2 205 W) (R := fun W => f_X11_found 155 x1 x2 W) e, i, rfl⟩
theorem tw_found {dk : DI} {x1 x2 : Int32} {W : tq_H} (g : GI dk W) : Twin dk (dk.2.1) (fun _ u => u = dk.2.2) (fun W => f_L_found 0 x1 x2 W) W := by
  refine twin_of (G := fun W => f_X10_found 0 x1 x2 W) (G' := fun t H => f_X10_found t x1 x2 H) (V := fun W => f_V_found 0 x1 x2 205 W) (R := fun W => f_X11_found 155 x1 x2 W) (cv := cI) (p := (pk3 "java/lang/IndexOutOfBoundsException" "" "")) (ok := (fun k => k = 1)) (wv := fun v => v) (we := wE) (EX := fun u W' => u = dk.2.2)
    (fun hE ht => y_X10_found ht hE) (fun hE ht => y_X11_found ht hE) (fun W k Wa h => v_found h) (fun W Wb v h0 h => ?_) (fun W Wb k hk h0 h => ?_) (fun v1 v2 h => toI64_inj h) (fun u W' k hx ht hk ho => hx) (fun u W' v hx ht ha => hx) (fun W h => ax_found h) g
  · unfold f_L_found
    rw [h0, Option.bind_some, h, Option.bind_some]
  · unfold f_L_found
    subst hk
    rw [pk3_1] at h ⊢
    rw [h0, Option.bind_some, h, Option.bind_some, wE_I]
    simp only [nAI, nSI, nSA, if_true, if_false]
theorem v_foundAnew {x1 x2 : Int32} {W Wa : tq_H} {k : Int32} (h : f_V_foundAnew 0 x1 x2 205 W = some (k, Wa)) : ∃ r Wb, tq_is W 0 10 = some () ∧ f_X10_foundAnew 0 x1 x2 W = some (r, Wb) ∧ ((∃ v, r = .inr v ∧ k = 0 ∧ tq_sl Wb 205 0 (cI v) = some Wa) ∨ (r = .inl ((pk3 "java/lang/IndexOutOfBoundsException" "" "") k) ∧ k ≠ 0 ∧ (fun k => k = 1) k ∧ Wa = Wb)) := by
  unfold f_V_foundAnew at h
  obtain ⟨⟨⟩, e0, h⟩ := tq_be h
  obtain ⟨⟨r, Wb⟩, e, h⟩ := tq_be h
  refine ⟨r, Wb, e0, e, ?_⟩
  cases r with
  | inl E =>
    right
    dsimp only at h
    by_cases c0 : E = "java/lang/IndexOutOfBoundsException"
    · rw [if_pos c0] at h
      cases h
      exact ⟨by rw [c0, pk3_1], by decide, rfl, rfl⟩
    rw [if_neg c0] at h
    cases h
  | inr v =>
    left
    dsimp only at h
    obtain ⟨w, e5, h⟩ := tq_be h
    cases h
    exact ⟨v, rfl, rfl, e5⟩
theorem ax_foundAnew {dk : DI} {x1 x2 : Int32} {W : tq_H} (h : InvE dk W) : ∃ W' u, AX (fun W => f_V_foundAnew 0 x1 x2 205 W) (fun W => f_X11_foundAnew 155 x1 x2 W) cI W W' ∧ InvE (dk.1, dk.2.1, u) W' ∧ u = dk.2.2 := by
  obtain ⟨W', e, i⟩ := arm_foundAnew (n := 5) (xs := (x5 x1 x2 0 0)) (y4 := 0) h (sx1 x1 x2 0 0) (sx2 x1 x2 0 0)
  have e0 : f_V_law_c1959 5 (x5 x1 x2 0 0) 0 155 205 0 W = armI (f_V_foundAnew 0 x1 x2 205 W) (f_X11_foundAnew 155 x1 x2) 0 := by
    unfold f_V_law_c1959
    rw [(sx1 x1 x2 0 0), (sx2 x1 x2 0 0)]; rfl
  rw [e0] at e
  exact ⟨W', dk.2.2, armI_x (V := fun W => f_V_foundAnew 0 x1 x2 205 W) (R := fun W => f_X11_foundAnew 155 x1 x2 W) e, i, rfl⟩
theorem tw_foundAnew {dk : DI} {x1 x2 : Int32} {W : tq_H} (g : GI dk W) : Twin dk (dk.2.1) (fun _ u => u = dk.2.2) (fun W => f_L_foundAnew 0 x1 x2 W) W := by
  refine twin_of (G := fun W => f_X10_foundAnew 0 x1 x2 W) (G' := fun t H => f_X10_foundAnew t x1 x2 H) (V := fun W => f_V_foundAnew 0 x1 x2 205 W) (R := fun W => f_X11_foundAnew 155 x1 x2 W) (cv := cI) (p := (pk3 "java/lang/IndexOutOfBoundsException" "" "")) (ok := (fun k => k = 1)) (wv := fun v => v) (we := wE) (EX := fun u W' => u = dk.2.2)
    (fun hE ht => y_X10_foundAnew ht hE) (fun hE ht => y_X11_foundAnew ht hE) (fun W k Wa h => v_foundAnew h) (fun W Wb v h0 h => ?_) (fun W Wb k hk h0 h => ?_) (fun v1 v2 h => toI64_inj h) (fun u W' k hx ht hk ho => hx) (fun u W' v hx ht ha => hx) (fun W h => ax_foundAnew h) g
  · unfold f_L_foundAnew
    rw [h0, Option.bind_some, h, Option.bind_some]
  · unfold f_L_foundAnew
    subst hk
    rw [pk3_1] at h ⊢
    rw [h0, Option.bind_some, h, Option.bind_some, wE_I]
    simp only [nAI, nSI, nSA, if_true, if_false]
theorem v_foundAt {x1 x2 : Int32} {W Wa : tq_H} {k : Int32} (h : f_V_foundAt 0 x1 x2 205 W = some (k, Wa)) : ∃ r Wb, tq_is W 0 10 = some () ∧ f_X10_foundAt 0 x1 x2 W = some (r, Wb) ∧ ((∃ v, r = .inr v ∧ k = 0 ∧ tq_sl Wb 205 0 (cI v) = some Wa) ∨ (r = .inl ((pk3 "java/lang/IndexOutOfBoundsException" "" "") k) ∧ k ≠ 0 ∧ (fun k => k = 1) k ∧ Wa = Wb)) := by
  unfold f_V_foundAt at h
  obtain ⟨⟨⟩, e0, h⟩ := tq_be h
  obtain ⟨⟨r, Wb⟩, e, h⟩ := tq_be h
  refine ⟨r, Wb, e0, e, ?_⟩
  cases r with
  | inl E =>
    right
    dsimp only at h
    by_cases c0 : E = "java/lang/IndexOutOfBoundsException"
    · rw [if_pos c0] at h
      cases h
      exact ⟨by rw [c0, pk3_1], by decide, rfl, rfl⟩
    rw [if_neg c0] at h
    cases h
  | inr v =>
    left
    dsimp only at h
    obtain ⟨w, e5, h⟩ := tq_be h
    cases h
    exact ⟨v, rfl, rfl, e5⟩
theorem ax_foundAt {dk : DI} {x1 x2 : Int32} {W : tq_H} (h : InvE dk W) : ∃ W' u, AX (fun W => f_V_foundAt 0 x1 x2 205 W) (fun W => f_X11_foundAt 155 x1 x2 W) cI W W' ∧ InvE (dk.1, dk.2.1, u) W' ∧ u = dk.2.2 := by
  obtain ⟨W', e, i⟩ := arm_foundAt (n := 5) (xs := (x5 x1 x2 0 0)) (y4 := 0) h (sx1 x1 x2 0 0) (sx2 x1 x2 0 0)
  have e0 : f_V_law_c2027 5 (x5 x1 x2 0 0) 0 155 205 0 W = armI (f_V_foundAt 0 x1 x2 205 W) (f_X11_foundAt 155 x1 x2) 0 := by
    unfold f_V_law_c2027
    rw [(sx1 x1 x2 0 0), (sx2 x1 x2 0 0)]; rfl
  rw [e0] at e
  exact ⟨W', dk.2.2, armI_x (V := fun W => f_V_foundAt 0 x1 x2 205 W) (R := fun W => f_X11_foundAt 155 x1 x2 W) e, i, rfl⟩
theorem tw_foundAt {dk : DI} {x1 x2 : Int32} {W : tq_H} (g : GI dk W) : Twin dk (dk.2.1) (fun _ u => u = dk.2.2) (fun W => f_L_foundAt 0 x1 x2 W) W := by
  refine twin_of (G := fun W => f_X10_foundAt 0 x1 x2 W) (G' := fun t H => f_X10_foundAt t x1 x2 H) (V := fun W => f_V_foundAt 0 x1 x2 205 W) (R := fun W => f_X11_foundAt 155 x1 x2 W) (cv := cI) (p := (pk3 "java/lang/IndexOutOfBoundsException" "" "")) (ok := (fun k => k = 1)) (wv := fun v => v) (we := wE) (EX := fun u W' => u = dk.2.2)
    (fun hE ht => y_X10_foundAt ht hE) (fun hE ht => y_X11_foundAt ht hE) (fun W k Wa h => v_foundAt h) (fun W Wb v h0 h => ?_) (fun W Wb k hk h0 h => ?_) (fun v1 v2 h => toI64_inj h) (fun u W' k hx ht hk ho => hx) (fun u W' v hx ht ha => hx) (fun W h => ax_foundAt h) g
  · unfold f_L_foundAt
    rw [h0, Option.bind_some, h, Option.bind_some]
  · unfold f_L_foundAt
    subst hk
    rw [pk3_1] at h ⊢
    rw [h0, Option.bind_some, h, Option.bind_some, wE_I]
    simp only [nAI, nSI, nSA, if_true, if_false]
theorem v_ordered {x1 x2 : Int32} {W Wa : tq_H} {k : Int32} (h : f_V_ordered 0 x1 x2 205 W = some (k, Wa)) : ∃ r Wb, tq_is W 0 10 = some () ∧ f_X10_ordered 0 x1 x2 W = some (r, Wb) ∧ ((∃ v, r = .inr v ∧ k = 0 ∧ tq_sl Wb 205 0 (cI v) = some Wa) ∨ (r = .inl ((pk3 "java/lang/IndexOutOfBoundsException" "" "") k) ∧ k ≠ 0 ∧ (fun k => k = 1) k ∧ Wa = Wb)) := by
  unfold f_V_ordered at h
  obtain ⟨⟨⟩, e0, h⟩ := tq_be h
  obtain ⟨⟨r, Wb⟩, e, h⟩ := tq_be h
  refine ⟨r, Wb, e0, e, ?_⟩
  cases r with
  | inl E =>
    right
    dsimp only at h
    by_cases c0 : E = "java/lang/IndexOutOfBoundsException"
    · rw [if_pos c0] at h
      cases h
      exact ⟨by rw [c0, pk3_1], by decide, rfl, rfl⟩
    rw [if_neg c0] at h
    cases h
  | inr v =>
    left
    dsimp only at h
    obtain ⟨w, e5, h⟩ := tq_be h
    cases h
    exact ⟨v, rfl, rfl, e5⟩
theorem ax_ordered {dk : DI} {x1 x2 : Int32} {W : tq_H} (h : InvE dk W) : ∃ W' u, AX (fun W => f_V_ordered 0 x1 x2 205 W) (fun W => f_X11_ordered 155 x1 x2 W) cI W W' ∧ InvE (dk.1, dk.2.1, u) W' ∧ u = dk.2.2 := by
  obtain ⟨W', e, i⟩ := arm_ordered (n := 5) (xs := (x5 x1 x2 0 0)) (y4 := 0) h (sx1 x1 x2 0 0) (sx2 x1 x2 0 0)
  have e0 : f_V_law_c2095 5 (x5 x1 x2 0 0) 0 155 205 0 W = armI (f_V_ordered 0 x1 x2 205 W) (f_X11_ordered 155 x1 x2) 0 := by
    unfold f_V_law_c2095
    rw [(sx1 x1 x2 0 0), (sx2 x1 x2 0 0)]; rfl
  rw [e0] at e
  exact ⟨W', dk.2.2, armI_x (V := fun W => f_V_ordered 0 x1 x2 205 W) (R := fun W => f_X11_ordered 155 x1 x2 W) e, i, rfl⟩
theorem tw_ordered {dk : DI} {x1 x2 : Int32} {W : tq_H} (g : GI dk W) : Twin dk (dk.2.1) (fun _ u => u = dk.2.2) (fun W => f_L_ordered 0 x1 x2 W) W := by
  refine twin_of (G := fun W => f_X10_ordered 0 x1 x2 W) (G' := fun t H => f_X10_ordered t x1 x2 H) (V := fun W => f_V_ordered 0 x1 x2 205 W) (R := fun W => f_X11_ordered 155 x1 x2 W) (cv := cI) (p := (pk3 "java/lang/IndexOutOfBoundsException" "" "")) (ok := (fun k => k = 1)) (wv := fun v => v) (we := wE) (EX := fun u W' => u = dk.2.2)
    (fun hE ht => y_X10_ordered ht hE) (fun hE ht => y_X11_ordered ht hE) (fun W k Wa h => v_ordered h) (fun W Wb v h0 h => ?_) (fun W Wb k hk h0 h => ?_) (fun v1 v2 h => toI64_inj h) (fun u W' k hx ht hk ho => hx) (fun u W' v hx ht ha => hx) (fun W h => ax_ordered h) g
  · unfold f_L_ordered
    rw [h0, Option.bind_some, h, Option.bind_some]
  · unfold f_L_ordered
    subst hk
    rw [pk3_1] at h ⊢
    rw [h0, Option.bind_some, h, Option.bind_some, wE_I]
    simp only [nAI, nSI, nSA, if_true, if_false]
theorem v_groups {x1 : Int32} {W Wa : tq_H} {k : Int32} (h : f_V_groups 0 x1 205 W = some (k, Wa)) : ∃ r Wb, tq_is W 0 10 = some () ∧ f_X10_groups 0 x1 W = some (r, Wb) ∧ ((∃ v, r = .inr v ∧ k = 0 ∧ tq_sl Wb 205 0 (cI v) = some Wa) ∨ (r = .inl ((pk3 "java/lang/IndexOutOfBoundsException" "" "") k) ∧ k ≠ 0 ∧ (fun k => k = 1) k ∧ Wa = Wb)) := by
  unfold f_V_groups at h
  obtain ⟨⟨⟩, e0, h⟩ := tq_be h
  obtain ⟨⟨r, Wb⟩, e, h⟩ := tq_be h
  refine ⟨r, Wb, e0, e, ?_⟩
  cases r with
  | inl E =>
    right
    dsimp only at h
    by_cases c0 : E = "java/lang/IndexOutOfBoundsException"
    · rw [if_pos c0] at h
      cases h
      exact ⟨by rw [c0, pk3_1], by decide, rfl, rfl⟩
    rw [if_neg c0] at h
    cases h
  | inr v =>
    left
    dsimp only at h
    obtain ⟨w, e5, h⟩ := tq_be h
    cases h
    exact ⟨v, rfl, rfl, e5⟩
theorem ax_groups {dk : DI} {x1 : Int32} {W : tq_H} (h : InvE dk W) : ∃ W' u, AX (fun W => f_V_groups 0 x1 205 W) (fun W => f_X11_groups 155 x1 W) cI W W' ∧ InvE (dk.1, dk.2.1, u) W' ∧ u = dk.2.2 := by
  obtain ⟨W', e, i⟩ := arm_groups (n := 5) (xs := (x5 x1 0 0 0)) (y4 := 0) h (sx1 x1 0 0 0)
  have e0 : f_V_law_c2163 5 (x5 x1 0 0 0) 0 155 205 0 W = armI (f_V_groups 0 x1 205 W) (f_X11_groups 155 x1) 0 := by
    unfold f_V_law_c2163
    rw [(sx1 x1 0 0 0)]; rfl
  rw [e0] at e
  exact ⟨W', dk.2.2, armI_x (V := fun W => f_V_groups 0 x1 205 W) (R := fun W => f_X11_groups 155 x1 W) e, i, rfl⟩
theorem tw_groups {dk : DI} {x1 : Int32} {W : tq_H} (g : GI dk W) : Twin dk (dk.2.1) (fun _ u => u = dk.2.2) (fun W => f_L_groups 0 x1 W) W := by
  refine twin_of (G := fun W => f_X10_groups 0 x1 W) (G' := fun t H => f_X10_groups t x1 H) (V := fun W => f_V_groups 0 x1 205 W) (R := fun W => f_X11_groups 155 x1 W) (cv := cI) (p := (pk3 "java/lang/IndexOutOfBoundsException" "" "")) (ok := (fun k => k = 1)) (wv := fun v => v) (we := wE) (EX := fun u W' => u = dk.2.2)
    (fun hE ht => y_X10_groups ht hE) (fun hE ht => y_X11_groups ht hE) (fun W k Wa h => v_groups h) (fun W Wb v h0 h => ?_) (fun W Wb k hk h0 h => ?_) (fun v1 v2 h => toI64_inj h) (fun u W' k hx ht hk ho => hx) (fun u W' v hx ht ha => hx) (fun W h => ax_groups h) g
  · unfold f_L_groups
    rw [h0, Option.bind_some, h, Option.bind_some]
  · unfold f_L_groups
    subst hk
    rw [pk3_1] at h ⊢
    rw [h0, Option.bind_some, h, Option.bind_some, wE_I]
    simp only [nAI, nSI, nSA, if_true, if_false]
theorem v_nameType {x1 x2 : Int32} {W Wa : tq_H} {k : Int32} (h : f_V_nameType 0 x1 x2 205 W = some (k, Wa)) : ∃ r Wb, tq_is W 0 10 = some () ∧ f_X10_nameType 0 x1 x2 W = some (r, Wb) ∧ ((∃ v, r = .inr v ∧ k = 0 ∧ tq_sl Wb 205 0 (cI v) = some Wa) ∨ (r = .inl ((pk3 "java/lang/IndexOutOfBoundsException" "java/lang/IllegalArgumentException" "java/lang/IllegalStateException") k) ∧ k ≠ 0 ∧ (fun k => k = 1 ∨ k = 2 ∨ k = 3) k ∧ Wa = Wb)) := by
  unfold f_V_nameType at h
  obtain ⟨⟨⟩, e0, h⟩ := tq_be h
  obtain ⟨⟨r, Wb⟩, e, h⟩ := tq_be h
  refine ⟨r, Wb, e0, e, ?_⟩
  cases r with
  | inl E =>
    right
    dsimp only at h
    by_cases c0 : E = "java/lang/IndexOutOfBoundsException"
    · rw [if_pos c0] at h
      cases h
      exact ⟨by rw [c0, pk3_1], by decide, Or.inl rfl, rfl⟩
    rw [if_neg c0] at h
    by_cases c1 : E = "java/lang/IllegalArgumentException"
    · rw [if_pos c1] at h
      cases h
      exact ⟨by rw [c1, pk3_2], by decide, Or.inr (Or.inl rfl), rfl⟩
    rw [if_neg c1] at h
    by_cases c2 : E = "java/lang/IllegalStateException"
    · rw [if_pos c2] at h
      cases h
      exact ⟨by rw [c2, pk3_3], by decide, Or.inr (Or.inr (rfl)), rfl⟩
    rw [if_neg c2] at h
    cases h
  | inr v =>
    left
    dsimp only at h
    obtain ⟨w, e5, h⟩ := tq_be h
    cases h
    exact ⟨v, rfl, rfl, e5⟩
theorem ax_nameType {dk : DI} {x1 x2 : Int32} {W : tq_H} (h : InvE dk W) : ∃ W' u, AX (fun W => f_V_nameType 0 x1 x2 205 W) (fun W => f_X11_nameType 155 x1 x2 W) cI W W' ∧ InvE (dk.1, dk.2.1, u) W' ∧ u = dk.2.2 := by
  obtain ⟨W', e, i⟩ := arm_nameType (n := 5) (xs := (x5 x1 x2 0 0)) (y4 := 0) h (sx1 x1 x2 0 0) (sx2 x1 x2 0 0)
  have e0 : f_V_law_c2219 5 (x5 x1 x2 0 0) 0 155 205 0 W = armI (f_V_nameType 0 x1 x2 205 W) (f_X11_nameType 155 x1 x2) 0 := by
    unfold f_V_law_c2219
    rw [(sx1 x1 x2 0 0), (sx2 x1 x2 0 0)]; rfl
  rw [e0] at e
  exact ⟨W', dk.2.2, armI_x (V := fun W => f_V_nameType 0 x1 x2 205 W) (R := fun W => f_X11_nameType 155 x1 x2 W) e, i, rfl⟩
theorem tw_nameType {dk : DI} {x1 x2 : Int32} {W : tq_H} (g : GI dk W) : Twin dk (dk.2.1) (fun _ u => u = dk.2.2) (fun W => f_L_nameType 0 x1 x2 W) W := by
  refine twin_of (G := fun W => f_X10_nameType 0 x1 x2 W) (G' := fun t H => f_X10_nameType t x1 x2 H) (V := fun W => f_V_nameType 0 x1 x2 205 W) (R := fun W => f_X11_nameType 155 x1 x2 W) (cv := cI) (p := (pk3 "java/lang/IndexOutOfBoundsException" "java/lang/IllegalArgumentException" "java/lang/IllegalStateException")) (ok := (fun k => k = 1 ∨ k = 2 ∨ k = 3)) (wv := fun v => v) (we := wE) (EX := fun u W' => u = dk.2.2)
    (fun hE ht => y_X10_nameType ht hE) (fun hE ht => y_X11_nameType ht hE) (fun W k Wa h => v_nameType h) (fun W Wb v h0 h => ?_) (fun W Wb k hk h0 h => ?_) (fun v1 v2 h => toI64_inj h) (fun u W' k hx ht hk ho => hx) (fun u W' v hx ht ha => hx) (fun W h => ax_nameType h) g
  · unfold f_L_nameType
    rw [h0, Option.bind_some, h, Option.bind_some]
  · unfold f_L_nameType
    rcases hk with rfl | rfl | rfl
    · rw [pk3_1] at h ⊢
      rw [h0, Option.bind_some, h, Option.bind_some, wE_I]
      simp only [nAI, nSI, nSA, if_true, if_false]
    · rw [pk3_2] at h ⊢
      rw [h0, Option.bind_some, h, Option.bind_some, wE_A]
      simp only [nAI, nSI, nSA, if_true, if_false]
    · rw [pk3_3] at h ⊢
      rw [h0, Option.bind_some, h, Option.bind_some, wE_S]
      simp only [nAI, nSI, nSA, if_true, if_false]
theorem v_arc {x1 x2 x3 x4 : Int32} {W Wa : tq_H} {k : Int32} (h : f_V_arc 0 x1 x2 x3 x4 205 W = some (k, Wa)) : ∃ r Wb, tq_is W 0 10 = some () ∧ f_X10_arc 0 x1 x2 x3 x4 W = some (r, Wb) ∧ ((∃ v, r = .inr v ∧ k = 0 ∧ tq_sl Wb 205 0 (cB v) = some Wa) ∨ (r = .inl ((pk3 "java/lang/IndexOutOfBoundsException" "java/lang/IllegalStateException" "") k) ∧ k ≠ 0 ∧ (fun k => k = 1 ∨ k = 2) k ∧ Wa = Wb)) := by
  unfold f_V_arc at h
  obtain ⟨⟨⟩, e0, h⟩ := tq_be h
  obtain ⟨⟨r, Wb⟩, e, h⟩ := tq_be h
  refine ⟨r, Wb, e0, e, ?_⟩
  cases r with
  | inl E =>
    right
    dsimp only at h
    by_cases c0 : E = "java/lang/IndexOutOfBoundsException"
    · rw [if_pos c0] at h
      cases h
      exact ⟨by rw [c0, pk3_1], by decide, Or.inl rfl, rfl⟩
    rw [if_neg c0] at h
    by_cases c1 : E = "java/lang/IllegalStateException"
    · rw [if_pos c1] at h
      cases h
      exact ⟨by rw [c1, pk3_2], by decide, Or.inr (rfl), rfl⟩
    rw [if_neg c1] at h
    cases h
  | inr v =>
    left
    dsimp only at h
    unfold tq_let at h
    obtain ⟨w, e5, h⟩ := tq_be h
    cases h
    exact ⟨v, rfl, rfl, e5⟩
theorem ax_arc {dk : DI} {x1 x2 x3 x4 : Int32} {W : tq_H} (h : InvE dk W) : ∃ W' u, AX (fun W => f_V_arc 0 x1 x2 x3 x4 205 W) (fun W => f_X11_arc 155 x1 x2 x3 x4 W) cB W W' ∧ InvE (dk.1, dk.2.1, u) W' ∧ u = dk.2.2 := by
  obtain ⟨W', e, i⟩ := arm_arc (n := 5) (xs := (x5 x1 x2 x3 x4)) (y4 := 0) h (sx1 x1 x2 x3 x4) (sx2 x1 x2 x3 x4) (sx3 x1 x2 x3 x4) (sx4 x1 x2 x3 x4)
  have e0 : f_V_law_c2287 5 (x5 x1 x2 x3 x4) 0 155 205 0 W = armB (f_V_arc 0 x1 x2 x3 x4 205 W) (f_X11_arc 155 x1 x2 x3 x4) 0 := by
    unfold f_V_law_c2287
    rw [(sx1 x1 x2 x3 x4), (sx2 x1 x2 x3 x4), (sx3 x1 x2 x3 x4), (sx4 x1 x2 x3 x4)]; rfl
  rw [e0] at e
  exact ⟨W', dk.2.2, armB_x (V := fun W => f_V_arc 0 x1 x2 x3 x4 205 W) (R := fun W => f_X11_arc 155 x1 x2 x3 x4 W) e, i, rfl⟩
theorem tw_arc {dk : DI} {x1 x2 x3 x4 : Int32} {W : tq_H} (g : GI dk W) : Twin dk (dk.2.1) (fun _ u => u = dk.2.2) (fun W => f_L_arc 0 x1 x2 x3 x4 W) W := by
  refine twin_of (G := fun W => f_X10_arc 0 x1 x2 x3 x4 W) (G' := fun t H => f_X10_arc t x1 x2 x3 x4 H) (V := fun W => f_V_arc 0 x1 x2 x3 x4 205 W) (R := fun W => f_X11_arc 155 x1 x2 x3 x4 W) (cv := cB) (p := (pk3 "java/lang/IndexOutOfBoundsException" "java/lang/IllegalStateException" "")) (ok := (fun k => k = 1 ∨ k = 2)) (wv := wB) (we := wE) (EX := fun u W' => u = dk.2.2)
    (fun hE ht => y_X10_arc ht hE) (fun hE ht => y_X11_arc ht hE) (fun W k Wa h => v_arc h) (fun W Wb v h0 h => ?_) (fun W Wb k hk h0 h => ?_) (fun v1 v2 h => wB_eq h) (fun u W' k hx ht hk ho => hx) (fun u W' v hx ht ha => hx) (fun W h => ax_arc h) g
  · unfold f_L_arc
    rw [h0, Option.bind_some, h, Option.bind_some]
    rfl
  · unfold f_L_arc
    rcases hk with rfl | rfl
    · rw [pk3_1] at h ⊢
      rw [h0, Option.bind_some, h, Option.bind_some, wE_I]
      simp only [nAI, nSI, nSA, if_true, if_false]
    · rw [pk3_2] at h ⊢
      rw [h0, Option.bind_some, h, Option.bind_some, wE_S]
      simp only [nAI, nSI, nSA, if_true, if_false]
theorem v_fin {x1 x2 x3 : Int32} {W Wa : tq_H} {k : Int32} (h : f_V_setFinal 0 x1 x2 x3 205 W = some (k, Wa)) : ∃ r Wb, tq_is W 0 10 = some () ∧ f_X10_setFinal 0 x1 x2 x3 W = some (r, Wb) ∧ ((∃ v, r = .inr v ∧ k = 0 ∧ tq_sl Wb 205 0 (cB v) = some Wa) ∨ (r = .inl ((pk3 "java/lang/IndexOutOfBoundsException" "java/lang/IllegalStateException" "") k) ∧ k ≠ 0 ∧ (fun k => k = 1 ∨ k = 2) k ∧ Wa = Wb)) := by
  unfold f_V_setFinal at h
  obtain ⟨⟨⟩, e0, h⟩ := tq_be h
  obtain ⟨⟨r, Wb⟩, e, h⟩ := tq_be h
  refine ⟨r, Wb, e0, e, ?_⟩
  cases r with
  | inl E =>
    right
    dsimp only at h
    by_cases c0 : E = "java/lang/IndexOutOfBoundsException"
    · rw [if_pos c0] at h
      cases h
      exact ⟨by rw [c0, pk3_1], by decide, Or.inl rfl, rfl⟩
    rw [if_neg c0] at h
    by_cases c1 : E = "java/lang/IllegalStateException"
    · rw [if_pos c1] at h
      cases h
      exact ⟨by rw [c1, pk3_2], by decide, Or.inr (rfl), rfl⟩
    rw [if_neg c1] at h
    cases h
  | inr v =>
    left
    dsimp only at h
    unfold tq_let at h
    obtain ⟨w, e5, h⟩ := tq_be h
    cases h
    exact ⟨v, rfl, rfl, e5⟩
theorem ax_fin {dk : DI} {x1 x2 x3 : Int32} {W : tq_H} (h : InvE dk W) (hb : x3 = 0 ∨ x3 = 1) : ∃ W' u, AX (fun W => f_V_setFinal 0 x1 x2 x3 205 W) (fun W => f_X11_setFinal 155 x1 x2 x3 W) cB W W' ∧ InvE (dk.1, dk.2.1, u) W' ∧ u = dk.2.2 := by
  obtain ⟨W', e, i⟩ := arm_setFinal (n := 5) (xs := (x5 x1 x2 x3 0)) (y4 := 0) h (sx1 x1 x2 x3 0) (sx2 x1 x2 x3 0) (sx3 x1 x2 x3 0)
  have hz : (if x3 = 0 then (0 : Int32) else 1) = x3 := by rcases hb with rfl | rfl <;> rfl
  have e0 : f_V_law_c2386 5 (x5 x1 x2 x3 0) 0 155 205 0 W = armB (f_V_setFinal 0 x1 x2 (if x3 = 0 then 0 else 1) 205 W) (f_X11_setFinal 155 x1 x2 (if x3 = 0 then 0 else 1)) 0 := by
    unfold f_V_law_c2386
    rw [(sx1 x1 x2 x3 0), (sx2 x1 x2 x3 0), (sx3 x1 x2 x3 0)]; rfl
  rw [hz] at e0
  rw [e0] at e
  exact ⟨W', dk.2.2, armB_x (V := fun W => f_V_setFinal 0 x1 x2 x3 205 W) (R := fun W => f_X11_setFinal 155 x1 x2 x3 W) e, i, rfl⟩
theorem tw_fin {dk : DI} {x1 x2 x3 : Int32} {W : tq_H} (g : GI dk W) (hb : x3 = 0 ∨ x3 = 1) : Twin dk (dk.2.1) (fun _ u => u = dk.2.2) (fun W => f_L_fin 0 x1 x2 x3 W) W := by
  refine twin_of (G := fun W => f_X10_setFinal 0 x1 x2 x3 W) (G' := fun t H => f_X10_setFinal t x1 x2 x3 H) (V := fun W => f_V_setFinal 0 x1 x2 x3 205 W) (R := fun W => f_X11_setFinal 155 x1 x2 x3 W) (cv := cB) (p := (pk3 "java/lang/IndexOutOfBoundsException" "java/lang/IllegalStateException" "")) (ok := (fun k => k = 1 ∨ k = 2)) (wv := wB) (we := wE) (EX := fun u W' => u = dk.2.2)
    (fun hE ht => y_X10_setFinal ht hE) (fun hE ht => y_X11_setFinal ht hE) (fun W k Wa h => v_fin h) (fun W Wb v h0 h => ?_) (fun W Wb k hk h0 h => ?_) (fun v1 v2 h => wB_eq h) (fun u W' k hx ht hk ho => hx) (fun u W' v hx ht ha => hx) (fun W h => ax_fin h hb) g
  · unfold f_L_fin
    rw [h0, Option.bind_some, h, Option.bind_some]
    rfl
  · unfold f_L_fin
    rcases hk with rfl | rfl
    · rw [pk3_1] at h ⊢
      rw [h0, Option.bind_some, h, Option.bind_some, wE_I]
      simp only [nAI, nSI, nSA, if_true, if_false]
    · rw [pk3_2] at h ⊢
      rw [h0, Option.bind_some, h, Option.bind_some, wE_S]
      simp only [nAI, nSI, nSA, if_true, if_false]
theorem v_texts {x1 x2 : Int32} {W Wa : tq_H} {k : Int32} (h : f_V_allowTexts 0 x1 x2 205 W = some (k, Wa)) : ∃ r Wb, tq_is W 0 10 = some () ∧ f_X10_allowTexts 0 x1 x2 W = some (r, Wb) ∧ ((∃ v, r = .inr v ∧ k = 0 ∧ tq_sl Wb 205 0 (cB v) = some Wa) ∨ (r = .inl ((pk3 "java/lang/IndexOutOfBoundsException" "java/lang/IllegalStateException" "") k) ∧ k ≠ 0 ∧ (fun k => k = 1 ∨ k = 2) k ∧ Wa = Wb)) := by
  unfold f_V_allowTexts at h
  obtain ⟨⟨⟩, e0, h⟩ := tq_be h
  obtain ⟨⟨r, Wb⟩, e, h⟩ := tq_be h
  refine ⟨r, Wb, e0, e, ?_⟩
  cases r with
  | inl E =>
    right
    dsimp only at h
    by_cases c0 : E = "java/lang/IndexOutOfBoundsException"
    · rw [if_pos c0] at h
      cases h
      exact ⟨by rw [c0, pk3_1], by decide, Or.inl rfl, rfl⟩
    rw [if_neg c0] at h
    by_cases c1 : E = "java/lang/IllegalStateException"
    · rw [if_pos c1] at h
      cases h
      exact ⟨by rw [c1, pk3_2], by decide, Or.inr (rfl), rfl⟩
    rw [if_neg c1] at h
    cases h
  | inr v =>
    left
    dsimp only at h
    unfold tq_let at h
    obtain ⟨w, e5, h⟩ := tq_be h
    cases h
    exact ⟨v, rfl, rfl, e5⟩
theorem ax_texts {dk : DI} {x1 x2 : Int32} {W : tq_H} (h : InvE dk W) (hb : x2 = 0 ∨ x2 = 1) : ∃ W' u, AX (fun W => f_V_allowTexts 0 x1 x2 205 W) (fun W => f_X11_allowTexts 155 x1 x2 W) cB W W' ∧ InvE (dk.1, dk.2.1, u) W' ∧ u = dk.2.2 := by
  obtain ⟨W', e, i⟩ := arm_allowTexts (n := 5) (xs := (x5 x1 x2 0 0)) (y4 := 0) h (sx1 x1 x2 0 0) (sx2 x1 x2 0 0)
  have hz : (if x2 = 0 then (0 : Int32) else 1) = x2 := by rcases hb with rfl | rfl <;> rfl
  have e0 : f_V_law_c2489 5 (x5 x1 x2 0 0) 0 155 205 0 W = armB (f_V_allowTexts 0 x1 (if x2 = 0 then 0 else 1) 205 W) (f_X11_allowTexts 155 x1 (if x2 = 0 then 0 else 1)) 0 := by
    unfold f_V_law_c2489
    rw [(sx1 x1 x2 0 0), (sx2 x1 x2 0 0)]; rfl
  rw [hz] at e0
  rw [e0] at e
  exact ⟨W', dk.2.2, armB_x (V := fun W => f_V_allowTexts 0 x1 x2 205 W) (R := fun W => f_X11_allowTexts 155 x1 x2 W) e, i, rfl⟩
theorem tw_texts {dk : DI} {x1 x2 : Int32} {W : tq_H} (g : GI dk W) (hb : x2 = 0 ∨ x2 = 1) : Twin dk (dk.2.1) (fun _ u => u = dk.2.2) (fun W => f_L_texts 0 x1 x2 W) W := by
  refine twin_of (G := fun W => f_X10_allowTexts 0 x1 x2 W) (G' := fun t H => f_X10_allowTexts t x1 x2 H) (V := fun W => f_V_allowTexts 0 x1 x2 205 W) (R := fun W => f_X11_allowTexts 155 x1 x2 W) (cv := cB) (p := (pk3 "java/lang/IndexOutOfBoundsException" "java/lang/IllegalStateException" "")) (ok := (fun k => k = 1 ∨ k = 2)) (wv := wB) (we := wE) (EX := fun u W' => u = dk.2.2)
    (fun hE ht => y_X10_allowTexts ht hE) (fun hE ht => y_X11_allowTexts ht hE) (fun W k Wa h => v_texts h) (fun W Wb v h0 h => ?_) (fun W Wb k hk h0 h => ?_) (fun v1 v2 h => wB_eq h) (fun u W' k hx ht hk ho => hx) (fun u W' v hx ht ha => hx) (fun W h => ax_texts h hb) g
  · unfold f_L_texts
    rw [h0, Option.bind_some, h, Option.bind_some]
    rfl
  · unfold f_L_texts
    rcases hk with rfl | rfl
    · rw [pk3_1] at h ⊢
      rw [h0, Option.bind_some, h, Option.bind_some, wE_I]
      simp only [nAI, nSI, nSA, if_true, if_false]
    · rw [pk3_2] at h ⊢
      rw [h0, Option.bind_some, h, Option.bind_some, wE_S]
      simp only [nAI, nSI, nSA, if_true, if_false]
theorem v_says {x1 x2 x3 : Int32} {W Wa : tq_H} {k : Int32} (h : f_V_attribute 0 x1 x2 x3 205 W = some (k, Wa)) : ∃ r Wb, tq_is W 0 10 = some () ∧ f_X10_attribute 0 x1 x2 x3 W = some (r, Wb) ∧ ((∃ v, r = .inr v ∧ k = 0 ∧ tq_sl Wb 205 0 (cI v) = some Wa) ∨ (r = .inl ((pk3 "java/lang/IndexOutOfBoundsException" "java/lang/IllegalArgumentException" "java/lang/IllegalStateException") k) ∧ k ≠ 0 ∧ (fun k => k = 1 ∨ k = 2 ∨ k = 3) k ∧ Wa = Wb)) := by
  unfold f_V_attribute at h
  obtain ⟨⟨⟩, e0, h⟩ := tq_be h
  obtain ⟨⟨r, Wb⟩, e, h⟩ := tq_be h
  refine ⟨r, Wb, e0, e, ?_⟩
  cases r with
  | inl E =>
    right
    dsimp only at h
    by_cases c0 : E = "java/lang/IndexOutOfBoundsException"
    · rw [if_pos c0] at h
      cases h
      exact ⟨by rw [c0, pk3_1], by decide, Or.inl rfl, rfl⟩
    rw [if_neg c0] at h
    by_cases c1 : E = "java/lang/IllegalArgumentException"
    · rw [if_pos c1] at h
      cases h
      exact ⟨by rw [c1, pk3_2], by decide, Or.inr (Or.inl rfl), rfl⟩
    rw [if_neg c1] at h
    by_cases c2 : E = "java/lang/IllegalStateException"
    · rw [if_pos c2] at h
      cases h
      exact ⟨by rw [c2, pk3_3], by decide, Or.inr (Or.inr (rfl)), rfl⟩
    rw [if_neg c2] at h
    cases h
  | inr v =>
    left
    dsimp only at h
    obtain ⟨w, e5, h⟩ := tq_be h
    cases h
    exact ⟨v, rfl, rfl, e5⟩
theorem ax_says {dk : DI} {x1 x2 x3 : Int32} {W : tq_H} (h : InvE dk W) : ∃ W' u, AX (fun W => f_V_attribute 0 x1 x2 x3 205 W) (fun W => f_X11_attribute 155 x1 x2 x3 W) cI W W' ∧ InvE (dk.1, dk.2.1, u) W' ∧ u = dk.2.2 := by
  obtain ⟨W', e, i⟩ := arm_attribute (n := 5) (xs := (x5 x1 x2 x3 0)) (y4 := 0) h (sx1 x1 x2 x3 0) (sx2 x1 x2 x3 0) (sx3 x1 x2 x3 0)
  have e0 : f_V_law_c2580 5 (x5 x1 x2 x3 0) 0 155 205 0 W = armI (f_V_attribute 0 x1 x2 x3 205 W) (f_X11_attribute 155 x1 x2 x3) 0 := by
    unfold f_V_law_c2580
    rw [(sx1 x1 x2 x3 0), (sx2 x1 x2 x3 0), (sx3 x1 x2 x3 0)]; rfl
  rw [e0] at e
  exact ⟨W', dk.2.2, armI_x (V := fun W => f_V_attribute 0 x1 x2 x3 205 W) (R := fun W => f_X11_attribute 155 x1 x2 x3 W) e, i, rfl⟩
theorem tw_says {dk : DI} {x1 x2 x3 : Int32} {W : tq_H} (g : GI dk W) : Twin dk (dk.2.1) (fun _ u => u = dk.2.2) (fun W => f_L_says 0 x1 x2 x3 W) W := by
  refine twin_of (G := fun W => f_X10_attribute 0 x1 x2 x3 W) (G' := fun t H => f_X10_attribute t x1 x2 x3 H) (V := fun W => f_V_attribute 0 x1 x2 x3 205 W) (R := fun W => f_X11_attribute 155 x1 x2 x3 W) (cv := cI) (p := (pk3 "java/lang/IndexOutOfBoundsException" "java/lang/IllegalArgumentException" "java/lang/IllegalStateException")) (ok := (fun k => k = 1 ∨ k = 2 ∨ k = 3)) (wv := fun v => v) (we := wE) (EX := fun u W' => u = dk.2.2)
    (fun hE ht => y_X10_attribute ht hE) (fun hE ht => y_X11_attribute ht hE) (fun W k Wa h => v_says h) (fun W Wb v h0 h => ?_) (fun W Wb k hk h0 h => ?_) (fun v1 v2 h => toI64_inj h) (fun u W' k hx ht hk ho => hx) (fun u W' v hx ht ha => hx) (fun W h => ax_says h) g
  · unfold f_L_says
    rw [h0, Option.bind_some, h, Option.bind_some]
  · unfold f_L_says
    rcases hk with rfl | rfl | rfl
    · rw [pk3_1] at h ⊢
      rw [h0, Option.bind_some, h, Option.bind_some, wE_I]
      simp only [nAI, nSI, nSA, if_true, if_false]
    · rw [pk3_2] at h ⊢
      rw [h0, Option.bind_some, h, Option.bind_some, wE_A]
      simp only [nAI, nSI, nSA, if_true, if_false]
    · rw [pk3_3] at h ⊢
      rw [h0, Option.bind_some, h, Option.bind_some, wE_S]
      simp only [nAI, nSI, nSA, if_true, if_false]
theorem v_strict {x1 : Int32} {W Wa : tq_H} {k : Int32} (h : f_V_setStrict 0 x1 205 W = some (k, Wa)) : ∃ r Wb, tq_is W 0 10 = some () ∧ f_X10_setStrict 0 x1 W = some (r, Wb) ∧ ((∃ v, r = .inr v ∧ k = 0 ∧ tq_sl Wb 205 0 (cB v) = some Wa) ∨ (r = .inl ((pk3 "java/lang/IllegalStateException" "" "") k) ∧ k ≠ 0 ∧ (fun k => k = 1) k ∧ Wa = Wb)) := by
  unfold f_V_setStrict at h
  obtain ⟨⟨⟩, e0, h⟩ := tq_be h
  obtain ⟨⟨r, Wb⟩, e, h⟩ := tq_be h
  refine ⟨r, Wb, e0, e, ?_⟩
  cases r with
  | inl E =>
    right
    dsimp only at h
    by_cases c0 : E = "java/lang/IllegalStateException"
    · rw [if_pos c0] at h
      cases h
      exact ⟨by rw [c0, pk3_1], by decide, rfl, rfl⟩
    rw [if_neg c0] at h
    cases h
  | inr v =>
    left
    dsimp only at h
    unfold tq_let at h
    obtain ⟨w, e5, h⟩ := tq_be h
    cases h
    exact ⟨v, rfl, rfl, e5⟩
theorem ax_strict {dk : DI} {x1 : Int32} {W : tq_H} (h : InvE dk W) (hb : x1 = 0 ∨ x1 = 1) : ∃ W' u, AX (fun W => f_V_setStrict 0 x1 205 W) (fun W => f_X11_setStrict 155 x1 W) cB W W' ∧ InvE (dk.1, dk.2.1, u) W' ∧ u = dk.2.2 := by
  obtain ⟨W', e, i⟩ := arm_setStrict (n := 5) (xs := (x5 x1 0 0 0)) (y4 := 0) h (sx1 x1 0 0 0)
  have hz : (if x1 = 0 then (0 : Int32) else 1) = x1 := by rcases hb with rfl | rfl <;> rfl
  have e0 : f_V_law_c2660 5 (x5 x1 0 0 0) 0 155 205 0 W = armB (f_V_setStrict 0 (if x1 = 0 then 0 else 1) 205 W) (f_X11_setStrict 155 (if x1 = 0 then 0 else 1)) 0 := by
    unfold f_V_law_c2660
    rw [(sx1 x1 0 0 0)]; rfl
  rw [hz] at e0
  rw [e0] at e
  exact ⟨W', dk.2.2, armB_x (V := fun W => f_V_setStrict 0 x1 205 W) (R := fun W => f_X11_setStrict 155 x1 W) e, i, rfl⟩
theorem tw_strict {dk : DI} {x1 : Int32} {W : tq_H} (g : GI dk W) (hb : x1 = 0 ∨ x1 = 1) : Twin dk (dk.2.1) (fun _ u => u = dk.2.2) (fun W => f_L_strict 0 x1 W) W := by
  refine twin_of (G := fun W => f_X10_setStrict 0 x1 W) (G' := fun t H => f_X10_setStrict t x1 H) (V := fun W => f_V_setStrict 0 x1 205 W) (R := fun W => f_X11_setStrict 155 x1 W) (cv := cB) (p := (pk3 "java/lang/IllegalStateException" "" "")) (ok := (fun k => k = 1)) (wv := wB) (we := wE) (EX := fun u W' => u = dk.2.2)
    (fun hE ht => y_X10_setStrict ht hE) (fun hE ht => y_X11_setStrict ht hE) (fun W k Wa h => v_strict h) (fun W Wb v h0 h => ?_) (fun W Wb k hk h0 h => ?_) (fun v1 v2 h => wB_eq h) (fun u W' k hx ht hk ho => hx) (fun u W' v hx ht ha => hx) (fun W h => ax_strict h hb) g
  · unfold f_L_strict
    rw [h0, Option.bind_some, h, Option.bind_some]
    rfl
  · unfold f_L_strict
    subst hk
    rw [pk3_1] at h ⊢
    rw [h0, Option.bind_some, h, Option.bind_some, wE_S]
    simp only [nAI, nSI, nSA, if_true, if_false]
theorem v_types {x1 : Int32} {W Wa : tq_H} {k : Int32} (h : f_V_types 0 x1 205 W = some (k, Wa)) : ∃ r Wb, tq_is W 0 10 = some () ∧ f_X10_types 0 x1 W = some (r, Wb) ∧ ((∃ v, r = .inr v ∧ k = 0 ∧ tq_sl Wb 205 0 (cI v) = some Wa) ∨ (r = .inl ((pk3 "java/lang/IndexOutOfBoundsException" "" "") k) ∧ k ≠ 0 ∧ (fun k => k = 1) k ∧ Wa = Wb)) := by
  unfold f_V_types at h
  obtain ⟨⟨⟩, e0, h⟩ := tq_be h
  obtain ⟨⟨r, Wb⟩, e, h⟩ := tq_be h
  refine ⟨r, Wb, e0, e, ?_⟩
  cases r with
  | inl E =>
    right
    dsimp only at h
    by_cases c0 : E = "java/lang/IndexOutOfBoundsException"
    · rw [if_pos c0] at h
      cases h
      exact ⟨by rw [c0, pk3_1], by decide, rfl, rfl⟩
    rw [if_neg c0] at h
    cases h
  | inr v =>
    left
    dsimp only at h
    obtain ⟨w, e5, h⟩ := tq_be h
    cases h
    exact ⟨v, rfl, rfl, e5⟩
theorem ax_types {dk : DI} {x1 : Int32} {W : tq_H} (h : InvE dk W) : ∃ W' u, AX (fun W => f_V_types 0 x1 205 W) (fun W => f_X11_types 155 x1 W) cI W W' ∧ InvE (dk.1, dk.2.1, u) W' ∧ u = dk.2.2 := by
  obtain ⟨W', e, i⟩ := arm_types (n := 5) (xs := (x5 x1 0 0 0)) (y4 := 0) h (sx1 x1 0 0 0)
  have e0 : f_V_law_c2752 5 (x5 x1 0 0 0) 0 155 205 0 W = armI (f_V_types 0 x1 205 W) (f_X11_types 155 x1) 0 := by
    unfold f_V_law_c2752
    rw [(sx1 x1 0 0 0)]; rfl
  rw [e0] at e
  exact ⟨W', dk.2.2, armI_x (V := fun W => f_V_types 0 x1 205 W) (R := fun W => f_X11_types 155 x1 W) e, i, rfl⟩
theorem tw_types {dk : DI} {x1 : Int32} {W : tq_H} (g : GI dk W) : Twin dk (dk.2.1) (fun _ u => u = dk.2.2) (fun W => f_L_types 0 x1 W) W := by
  refine twin_of (G := fun W => f_X10_types 0 x1 W) (G' := fun t H => f_X10_types t x1 H) (V := fun W => f_V_types 0 x1 205 W) (R := fun W => f_X11_types 155 x1 W) (cv := cI) (p := (pk3 "java/lang/IndexOutOfBoundsException" "" "")) (ok := (fun k => k = 1)) (wv := fun v => v) (we := wE) (EX := fun u W' => u = dk.2.2)
    (fun hE ht => y_X10_types ht hE) (fun hE ht => y_X11_types ht hE) (fun W k Wa h => v_types h) (fun W Wb v h0 h => ?_) (fun W Wb k hk h0 h => ?_) (fun v1 v2 h => toI64_inj h) (fun u W' k hx ht hk ho => hx) (fun u W' v hx ht ha => hx) (fun W h => ax_types h) g
  · unfold f_L_types
    rw [h0, Option.bind_some, h, Option.bind_some]
  · unfold f_L_types
    subst hk
    rw [pk3_1] at h ⊢
    rw [h0, Option.bind_some, h, Option.bind_some, wE_I]
    simp only [nAI, nSI, nSA, if_true, if_false]
theorem v_infer {x1 : Int32} {W Wa : tq_H} {k : Int32} (h : f_V_infer 0 x1 205 W = some (k, Wa)) : ∃ r Wb, tq_is W 0 10 = some () ∧ f_X10_infer 0 x1 W = some (r, Wb) ∧ ((∃ v, r = .inr v ∧ k = 0 ∧ tq_sl Wb 205 0 (cI v) = some Wa) ∨ (r = .inl ((pk3 "java/lang/IndexOutOfBoundsException" "" "") k) ∧ k ≠ 0 ∧ (fun k => k = 1) k ∧ Wa = Wb)) := by
  unfold f_V_infer at h
  obtain ⟨⟨⟩, e0, h⟩ := tq_be h
  obtain ⟨⟨r, Wb⟩, e, h⟩ := tq_be h
  refine ⟨r, Wb, e0, e, ?_⟩
  cases r with
  | inl E =>
    right
    dsimp only at h
    by_cases c0 : E = "java/lang/IndexOutOfBoundsException"
    · rw [if_pos c0] at h
      cases h
      exact ⟨by rw [c0, pk3_1], by decide, rfl, rfl⟩
    rw [if_neg c0] at h
    cases h
  | inr v =>
    left
    dsimp only at h
    obtain ⟨w, e5, h⟩ := tq_be h
    cases h
    exact ⟨v, rfl, rfl, e5⟩
theorem ax_infer {dk : DI} {x1 : Int32} {W : tq_H} (h : InvE dk W) : ∃ W' u, AX (fun W => f_V_infer 0 x1 205 W) (fun W => f_X11_infer 155 x1 W) cI W W' ∧ InvE (dk.1, dk.2.1, u) W' ∧ u = dk.2.2 := by
  obtain ⟨W', e, i⟩ := arm_infer (n := 5) (xs := (x5 x1 0 0 0)) (y4 := 0) h (sx1 x1 0 0 0)
  have e0 : f_V_law_c2808 5 (x5 x1 0 0 0) 0 155 205 0 W = armI (f_V_infer 0 x1 205 W) (f_X11_infer 155 x1) 0 := by
    unfold f_V_law_c2808
    rw [(sx1 x1 0 0 0)]; rfl
  rw [e0] at e
  exact ⟨W', dk.2.2, armI_x (V := fun W => f_V_infer 0 x1 205 W) (R := fun W => f_X11_infer 155 x1 W) e, i, rfl⟩
theorem tw_infer {dk : DI} {x1 : Int32} {W : tq_H} (g : GI dk W) : Twin dk (dk.2.1) (fun _ u => u = dk.2.2) (fun W => f_L_infer 0 x1 W) W := by
  refine twin_of (G := fun W => f_X10_infer 0 x1 W) (G' := fun t H => f_X10_infer t x1 H) (V := fun W => f_V_infer 0 x1 205 W) (R := fun W => f_X11_infer 155 x1 W) (cv := cI) (p := (pk3 "java/lang/IndexOutOfBoundsException" "" "")) (ok := (fun k => k = 1)) (wv := fun v => v) (we := wE) (EX := fun u W' => u = dk.2.2)
    (fun hE ht => y_X10_infer ht hE) (fun hE ht => y_X11_infer ht hE) (fun W k Wa h => v_infer h) (fun W Wb v h0 h => ?_) (fun W Wb k hk h0 h => ?_) (fun v1 v2 h => toI64_inj h) (fun u W' k hx ht hk ho => hx) (fun u W' v hx ht ha => hx) (fun W h => ax_infer h) g
  · unfold f_L_infer
    rw [h0, Option.bind_some, h, Option.bind_some]
  · unfold f_L_infer
    subst hk
    rw [pk3_1] at h ⊢
    rw [h0, Option.bind_some, h, Option.bind_some, wE_I]
    simp only [nAI, nSI, nSA, if_true, if_false]
theorem v_index {x1 : Int32} {W Wa : tq_H} {k : Int32} (h : f_V_index 0 x1 205 W = some (k, Wa)) : ∃ r Wb, tq_is W 0 10 = some () ∧ f_X10_index 0 x1 W = some (r, Wb) ∧ ((∃ v, r = .inr v ∧ k = 0 ∧ tq_sl Wb 205 0 (cB v) = some Wa) ∨ (r = .inl ((pk3 "java/lang/IllegalArgumentException" "" "") k) ∧ k ≠ 0 ∧ (fun k => k = 1) k ∧ Wa = Wb)) := by
  unfold f_V_index at h
  obtain ⟨⟨⟩, e0, h⟩ := tq_be h
  obtain ⟨⟨r, Wb⟩, e, h⟩ := tq_be h
  refine ⟨r, Wb, e0, e, ?_⟩
  cases r with
  | inl E =>
    right
    dsimp only at h
    by_cases c0 : E = "java/lang/IllegalArgumentException"
    · rw [if_pos c0] at h
      cases h
      exact ⟨by rw [c0, pk3_1], by decide, rfl, rfl⟩
    rw [if_neg c0] at h
    cases h
  | inr v =>
    left
    dsimp only at h
    unfold tq_let at h
    obtain ⟨w, e5, h⟩ := tq_be h
    cases h
    exact ⟨v, rfl, rfl, e5⟩
theorem ax_index {dk : DI} {x1 : Int32} {W : tq_H} (h : InvE dk W) : ∃ W' u, AX (fun W => f_V_index 0 x1 205 W) (fun W => f_X11_index 155 x1 W) cB W W' ∧ InvE (dk.1, dk.2.1, u) W' ∧ u = dk.2.2 := by
  obtain ⟨W', e, i⟩ := arm_index (n := 5) (xs := (x5 x1 0 0 0)) (y4 := 0) h (sx1 x1 0 0 0)
  have e0 : f_V_law_c2864 5 (x5 x1 0 0 0) 0 155 205 0 W = armB (f_V_index 0 x1 205 W) (f_X11_index 155 x1) 0 := by
    unfold f_V_law_c2864
    rw [(sx1 x1 0 0 0)]; rfl
  rw [e0] at e
  exact ⟨W', dk.2.2, armB_x (V := fun W => f_V_index 0 x1 205 W) (R := fun W => f_X11_index 155 x1 W) e, i, rfl⟩
theorem tw_index {dk : DI} {x1 : Int32} {W : tq_H} (g : GI dk W) : Twin dk (dk.2.1) (fun _ u => u = dk.2.2) (fun W => f_L_index 0 x1 W) W := by
  refine twin_of (G := fun W => f_X10_index 0 x1 W) (G' := fun t H => f_X10_index t x1 H) (V := fun W => f_V_index 0 x1 205 W) (R := fun W => f_X11_index 155 x1 W) (cv := cB) (p := (pk3 "java/lang/IllegalArgumentException" "" "")) (ok := (fun k => k = 1)) (wv := wB) (we := wE) (EX := fun u W' => u = dk.2.2)
    (fun hE ht => y_X10_index ht hE) (fun hE ht => y_X11_index ht hE) (fun W k Wa h => v_index h) (fun W Wb v h0 h => ?_) (fun W Wb k hk h0 h => ?_) (fun v1 v2 h => wB_eq h) (fun u W' k hx ht hk ho => hx) (fun u W' v hx ht ha => hx) (fun W h => ax_index h) g
  · unfold f_L_index
    rw [h0, Option.bind_some, h, Option.bind_some]
    rfl
  · unfold f_L_index
    subst hk
    rw [pk3_1] at h ⊢
    rw [h0, Option.bind_some, h, Option.bind_some, wE_A]
    simp only [nAI, nSI, nSA, if_true, if_false]
theorem v_plan {x1 : Int32} {W Wa : tq_H} {k : Int32} (h : f_V_plan 0 x1 205 W = some (k, Wa)) : ∃ r Wb, tq_is W 0 10 = some () ∧ f_X10_plan 0 x1 W = some (r, Wb) ∧ ((∃ v, r = .inr v ∧ k = 0 ∧ tq_sl Wb 205 0 (cI v) = some Wa) ∨ (r = .inl ((pk3 "java/lang/IndexOutOfBoundsException" "" "") k) ∧ k ≠ 0 ∧ (fun k => k = 1) k ∧ Wa = Wb)) := by
  unfold f_V_plan at h
  obtain ⟨⟨⟩, e0, h⟩ := tq_be h
  obtain ⟨⟨r, Wb⟩, e, h⟩ := tq_be h
  refine ⟨r, Wb, e0, e, ?_⟩
  cases r with
  | inl E =>
    right
    dsimp only at h
    by_cases c0 : E = "java/lang/IndexOutOfBoundsException"
    · rw [if_pos c0] at h
      cases h
      exact ⟨by rw [c0, pk3_1], by decide, rfl, rfl⟩
    rw [if_neg c0] at h
    cases h
  | inr v =>
    left
    dsimp only at h
    obtain ⟨w, e5, h⟩ := tq_be h
    cases h
    exact ⟨v, rfl, rfl, e5⟩
theorem ax_plan {dk : DI} {x1 : Int32} {W : tq_H} (h : InvE dk W) : ∃ W' u, AX (fun W => f_V_plan 0 x1 205 W) (fun W => f_X11_plan 155 x1 W) cI W W' ∧ InvE (dk.1, dk.2.1, u) W' ∧ u = dk.2.2 := by
  obtain ⟨W', e, i⟩ := arm_plan (n := 5) (xs := (x5 x1 0 0 0)) (y4 := 0) h (sx1 x1 0 0 0)
  have e0 : f_V_law_c2927 5 (x5 x1 0 0 0) 0 155 205 0 W = armI (f_V_plan 0 x1 205 W) (f_X11_plan 155 x1) 0 := by
    unfold f_V_law_c2927
    rw [(sx1 x1 0 0 0)]; rfl
  rw [e0] at e
  exact ⟨W', dk.2.2, armI_x (V := fun W => f_V_plan 0 x1 205 W) (R := fun W => f_X11_plan 155 x1 W) e, i, rfl⟩
theorem tw_plan {dk : DI} {x1 : Int32} {W : tq_H} (g : GI dk W) : Twin dk (dk.2.1) (fun _ u => u = dk.2.2) (fun W => f_L_plan 0 x1 W) W := by
  refine twin_of (G := fun W => f_X10_plan 0 x1 W) (G' := fun t H => f_X10_plan t x1 H) (V := fun W => f_V_plan 0 x1 205 W) (R := fun W => f_X11_plan 155 x1 W) (cv := cI) (p := (pk3 "java/lang/IndexOutOfBoundsException" "" "")) (ok := (fun k => k = 1)) (wv := fun v => v) (we := wE) (EX := fun u W' => u = dk.2.2)
    (fun hE ht => y_X10_plan ht hE) (fun hE ht => y_X11_plan ht hE) (fun W k Wa h => v_plan h) (fun W Wb v h0 h => ?_) (fun W Wb k hk h0 h => ?_) (fun v1 v2 h => toI64_inj h) (fun u W' k hx ht hk ho => hx) (fun u W' v hx ht ha => hx) (fun W h => ax_plan h) g
  · unfold f_L_plan
    rw [h0, Option.bind_some, h, Option.bind_some]
  · unfold f_L_plan
    subst hk
    rw [pk3_1] at h ⊢
    rw [h0, Option.bind_some, h, Option.bind_some, wE_I]
    simp only [nAI, nSI, nSA, if_true, if_false]
theorem v_view {x1 : Int32} {W Wa : tq_H} {k : Int32} (h : f_V_view 0 x1 205 W = some (k, Wa)) : ∃ r Wb, tq_is W 0 10 = some () ∧ f_X10_view 0 x1 W = some (r, Wb) ∧ ((∃ v, r = .inr v ∧ k = 0 ∧ tq_sl Wb 205 0 (cI v) = some Wa) ∨ (r = .inl ((pk3 "java/lang/IndexOutOfBoundsException" "java/lang/IllegalStateException" "") k) ∧ k ≠ 0 ∧ (fun k => k = 1 ∨ k = 2) k ∧ Wa = Wb)) := by
  unfold f_V_view at h
  obtain ⟨⟨⟩, e0, h⟩ := tq_be h
  obtain ⟨⟨r, Wb⟩, e, h⟩ := tq_be h
  refine ⟨r, Wb, e0, e, ?_⟩
  cases r with
  | inl E =>
    right
    dsimp only at h
    by_cases c0 : E = "java/lang/IndexOutOfBoundsException"
    · rw [if_pos c0] at h
      cases h
      exact ⟨by rw [c0, pk3_1], by decide, Or.inl rfl, rfl⟩
    rw [if_neg c0] at h
    by_cases c1 : E = "java/lang/IllegalStateException"
    · rw [if_pos c1] at h
      cases h
      exact ⟨by rw [c1, pk3_2], by decide, Or.inr (rfl), rfl⟩
    rw [if_neg c1] at h
    cases h
  | inr v =>
    left
    dsimp only at h
    obtain ⟨w, e5, h⟩ := tq_be h
    cases h
    exact ⟨v, rfl, rfl, e5⟩
theorem ax_view {dk : DI} {x1 : Int32} {W : tq_H} (h : InvE dk W) : ∃ W' u, AX (fun W => f_V_view 0 x1 205 W) (fun W => f_X11_view 155 x1 W) cI W W' ∧ InvE (dk.1, dk.2.1, u) W' ∧ u = dk.2.2 := by
  obtain ⟨W', e, i⟩ := arm_view (n := 5) (xs := (x5 x1 0 0 0)) (y4 := 0) h (sx1 x1 0 0 0)
  have e0 : f_V_law_c2983 5 (x5 x1 0 0 0) 0 155 205 0 W = armI (f_V_view 0 x1 205 W) (f_X11_view 155 x1) 0 := by
    unfold f_V_law_c2983
    rw [(sx1 x1 0 0 0)]; rfl
  rw [e0] at e
  exact ⟨W', dk.2.2, armI_x (V := fun W => f_V_view 0 x1 205 W) (R := fun W => f_X11_view 155 x1 W) e, i, rfl⟩
theorem tw_view {dk : DI} {x1 : Int32} {W : tq_H} (g : GI dk W) : Twin dk (dk.2.1) (fun _ u => u = dk.2.2) (fun W => f_L_view 0 x1 W) W := by
  refine twin_of (G := fun W => f_X10_view 0 x1 W) (G' := fun t H => f_X10_view t x1 H) (V := fun W => f_V_view 0 x1 205 W) (R := fun W => f_X11_view 155 x1 W) (cv := cI) (p := (pk3 "java/lang/IndexOutOfBoundsException" "java/lang/IllegalStateException" "")) (ok := (fun k => k = 1 ∨ k = 2)) (wv := fun v => v) (we := wE) (EX := fun u W' => u = dk.2.2)
    (fun hE ht => y_X10_view ht hE) (fun hE ht => y_X11_view ht hE) (fun W k Wa h => v_view h) (fun W Wb v h0 h => ?_) (fun W Wb k hk h0 h => ?_) (fun v1 v2 h => toI64_inj h) (fun u W' k hx ht hk ho => hx) (fun u W' v hx ht ha => hx) (fun W h => ax_view h) g
  · unfold f_L_view
    rw [h0, Option.bind_some, h, Option.bind_some]
  · unfold f_L_view
    rcases hk with rfl | rfl
    · rw [pk3_1] at h ⊢
      rw [h0, Option.bind_some, h, Option.bind_some, wE_I]
      simp only [nAI, nSI, nSA, if_true, if_false]
    · rw [pk3_2] at h ⊢
      rw [h0, Option.bind_some, h, Option.bind_some, wE_S]
      simp only [nAI, nSI, nSA, if_true, if_false]
theorem v_viewed {x1 x2 : Int32} {W Wa : tq_H} {k : Int32} (h : f_V_viewed 0 x1 x2 205 W = some (k, Wa)) : ∃ r Wb, tq_is W 0 10 = some () ∧ f_X10_viewed 0 x1 x2 W = some (r, Wb) ∧ ((∃ v, r = .inr v ∧ k = 0 ∧ tq_sl Wb 205 0 (cI v) = some Wa) ∨ (r = .inl ((pk3 "java/lang/IndexOutOfBoundsException" "" "") k) ∧ k ≠ 0 ∧ (fun k => k = 1) k ∧ Wa = Wb)) := by
  unfold f_V_viewed at h
  obtain ⟨⟨⟩, e0, h⟩ := tq_be h
  obtain ⟨⟨r, Wb⟩, e, h⟩ := tq_be h
  refine ⟨r, Wb, e0, e, ?_⟩
  cases r with
  | inl E =>
    right
    dsimp only at h
    by_cases c0 : E = "java/lang/IndexOutOfBoundsException"
    · rw [if_pos c0] at h
      cases h
      exact ⟨by rw [c0, pk3_1], by decide, rfl, rfl⟩
    rw [if_neg c0] at h
    cases h
  | inr v =>
    left
    dsimp only at h
    obtain ⟨w, e5, h⟩ := tq_be h
    cases h
    exact ⟨v, rfl, rfl, e5⟩
theorem ax_viewed {dk : DI} {x1 x2 : Int32} {W : tq_H} (h : InvE dk W) : ∃ W' u, AX (fun W => f_V_viewed 0 x1 x2 205 W) (fun W => f_X11_viewed 155 x1 x2 W) cI W W' ∧ InvE (dk.1, dk.2.1, u) W' ∧ u = dk.2.2 := by
  obtain ⟨W', e, i⟩ := arm_viewed (n := 5) (xs := (x5 x1 x2 0 0)) (y4 := 0) h (sx1 x1 x2 0 0) (sx2 x1 x2 0 0)
  have e0 : f_V_law_c3039 5 (x5 x1 x2 0 0) 0 155 205 0 W = armI (f_V_viewed 0 x1 x2 205 W) (f_X11_viewed 155 x1 x2) 0 := by
    unfold f_V_law_c3039
    rw [(sx1 x1 x2 0 0), (sx2 x1 x2 0 0)]; rfl
  rw [e0] at e
  exact ⟨W', dk.2.2, armI_x (V := fun W => f_V_viewed 0 x1 x2 205 W) (R := fun W => f_X11_viewed 155 x1 x2 W) e, i, rfl⟩
theorem tw_viewed {dk : DI} {x1 x2 : Int32} {W : tq_H} (g : GI dk W) : Twin dk (dk.2.1) (fun _ u => u = dk.2.2) (fun W => f_L_viewed 0 x1 x2 W) W := by
  refine twin_of (G := fun W => f_X10_viewed 0 x1 x2 W) (G' := fun t H => f_X10_viewed t x1 x2 H) (V := fun W => f_V_viewed 0 x1 x2 205 W) (R := fun W => f_X11_viewed 155 x1 x2 W) (cv := cI) (p := (pk3 "java/lang/IndexOutOfBoundsException" "" "")) (ok := (fun k => k = 1)) (wv := fun v => v) (we := wE) (EX := fun u W' => u = dk.2.2)
    (fun hE ht => y_X10_viewed ht hE) (fun hE ht => y_X11_viewed ht hE) (fun W k Wa h => v_viewed h) (fun W Wb v h0 h => ?_) (fun W Wb k hk h0 h => ?_) (fun v1 v2 h => toI64_inj h) (fun u W' k hx ht hk ho => hx) (fun u W' v hx ht ha => hx) (fun W h => ax_viewed h) g
  · unfold f_L_viewed
    rw [h0, Option.bind_some, h, Option.bind_some]
  · unfold f_L_viewed
    subst hk
    rw [pk3_1] at h ⊢
    rw [h0, Option.bind_some, h, Option.bind_some, wE_I]
    simp only [nAI, nSI, nSA, if_true, if_false]
theorem v_changed {x1 : Int32} {W Wa : tq_H} {k : Int32} (h : f_V_changed 0 x1 205 W = some (k, Wa)) : ∃ r Wb, tq_is W 0 10 = some () ∧ f_X10_changed 0 x1 W = some (r, Wb) ∧ ((∃ v, r = .inr v ∧ k = 0 ∧ tq_sl Wb 205 0 (cI v) = some Wa) ∨ (r = .inl ((pk3 "java/lang/IndexOutOfBoundsException" "" "") k) ∧ k ≠ 0 ∧ (fun k => k = 1) k ∧ Wa = Wb)) := by
  unfold f_V_changed at h
  obtain ⟨⟨⟩, e0, h⟩ := tq_be h
  obtain ⟨⟨r, Wb⟩, e, h⟩ := tq_be h
  refine ⟨r, Wb, e0, e, ?_⟩
  cases r with
  | inl E =>
    right
    dsimp only at h
    by_cases c0 : E = "java/lang/IndexOutOfBoundsException"
    · rw [if_pos c0] at h
      cases h
      exact ⟨by rw [c0, pk3_1], by decide, rfl, rfl⟩
    rw [if_neg c0] at h
    cases h
  | inr v =>
    left
    dsimp only at h
    obtain ⟨w, e5, h⟩ := tq_be h
    cases h
    exact ⟨v, rfl, rfl, e5⟩
theorem ax_changed {dk : DI} {x1 : Int32} {W : tq_H} (h : InvE dk W) : ∃ W' u, AX (fun W => f_V_changed 0 x1 205 W) (fun W => f_X11_changed 155 x1 W) cI W W' ∧ InvE (dk.1, dk.2.1, u) W' ∧ u = dk.2.2 := by
  obtain ⟨W', e, i⟩ := arm_changed (n := 5) (xs := (x5 x1 0 0 0)) (y4 := 0) h (sx1 x1 0 0 0)
  have e0 : f_V_law_c3107 5 (x5 x1 0 0 0) 0 155 205 0 W = armI (f_V_changed 0 x1 205 W) (f_X11_changed 155 x1) 0 := by
    unfold f_V_law_c3107
    rw [(sx1 x1 0 0 0)]; rfl
  rw [e0] at e
  exact ⟨W', dk.2.2, armI_x (V := fun W => f_V_changed 0 x1 205 W) (R := fun W => f_X11_changed 155 x1 W) e, i, rfl⟩
theorem tw_changed {dk : DI} {x1 : Int32} {W : tq_H} (g : GI dk W) : Twin dk (dk.2.1) (fun _ u => u = dk.2.2) (fun W => f_L_changed 0 x1 W) W := by
  refine twin_of (G := fun W => f_X10_changed 0 x1 W) (G' := fun t H => f_X10_changed t x1 H) (V := fun W => f_V_changed 0 x1 205 W) (R := fun W => f_X11_changed 155 x1 W) (cv := cI) (p := (pk3 "java/lang/IndexOutOfBoundsException" "" "")) (ok := (fun k => k = 1)) (wv := fun v => v) (we := wE) (EX := fun u W' => u = dk.2.2)
    (fun hE ht => y_X10_changed ht hE) (fun hE ht => y_X11_changed ht hE) (fun W k Wa h => v_changed h) (fun W Wb v h0 h => ?_) (fun W Wb k hk h0 h => ?_) (fun v1 v2 h => toI64_inj h) (fun u W' k hx ht hk ho => hx) (fun u W' v hx ht ha => hx) (fun W h => ax_changed h) g
  · unfold f_L_changed
    rw [h0, Option.bind_some, h, Option.bind_some]
  · unfold f_L_changed
    subst hk
    rw [pk3_1] at h ⊢
    rw [h0, Option.bind_some, h, Option.bind_some, wE_I]
    simp only [nAI, nSI, nSA, if_true, if_false]
theorem v_ranked {x1 x2 : Int32} {W Wa : tq_H} {k : Int32} (h : f_V_ranked 0 x1 x2 205 W = some (k, Wa)) : ∃ r Wb, tq_is W 0 10 = some () ∧ f_X10_ranked 0 x1 x2 W = some (r, Wb) ∧ ((∃ v, r = .inr v ∧ k = 0 ∧ tq_sl Wb 205 0 (cI v) = some Wa) ∨ (r = .inl ((pk3 "java/lang/IndexOutOfBoundsException" "java/lang/IllegalArgumentException" "") k) ∧ k ≠ 0 ∧ (fun k => k = 1 ∨ k = 2) k ∧ Wa = Wb)) := by
  unfold f_V_ranked at h
  obtain ⟨⟨⟩, e0, h⟩ := tq_be h
  obtain ⟨⟨r, Wb⟩, e, h⟩ := tq_be h
  refine ⟨r, Wb, e0, e, ?_⟩
  cases r with
  | inl E =>
    right
    dsimp only at h
    by_cases c0 : E = "java/lang/IndexOutOfBoundsException"
    · rw [if_pos c0] at h
      cases h
      exact ⟨by rw [c0, pk3_1], by decide, Or.inl rfl, rfl⟩
    rw [if_neg c0] at h
    by_cases c1 : E = "java/lang/IllegalArgumentException"
    · rw [if_pos c1] at h
      cases h
      exact ⟨by rw [c1, pk3_2], by decide, Or.inr (rfl), rfl⟩
    rw [if_neg c1] at h
    cases h
  | inr v =>
    left
    dsimp only at h
    obtain ⟨w, e5, h⟩ := tq_be h
    cases h
    exact ⟨v, rfl, rfl, e5⟩
theorem ax_ranked {dk : DI} {x1 x2 : Int32} {W : tq_H} (h : InvE dk W) : ∃ W' u, AX (fun W => f_V_ranked 0 x1 x2 205 W) (fun W => f_X11_ranked 155 x1 x2 W) cI W W' ∧ InvE (dk.1, dk.2.1, u) W' ∧ u = dk.2.2 := by
  obtain ⟨W', e, i⟩ := arm_ranked (n := 5) (xs := (x5 x1 x2 0 0)) (y4 := 0) h (sx1 x1 x2 0 0) (sx2 x1 x2 0 0)
  have e0 : f_V_law_c3163 5 (x5 x1 x2 0 0) 0 155 205 0 W = armI (f_V_ranked 0 x1 x2 205 W) (f_X11_ranked 155 x1 x2) 0 := by
    unfold f_V_law_c3163
    rw [(sx1 x1 x2 0 0), (sx2 x1 x2 0 0)]; rfl
  rw [e0] at e
  exact ⟨W', dk.2.2, armI_x (V := fun W => f_V_ranked 0 x1 x2 205 W) (R := fun W => f_X11_ranked 155 x1 x2 W) e, i, rfl⟩
theorem tw_ranked {dk : DI} {x1 x2 : Int32} {W : tq_H} (g : GI dk W) : Twin dk (dk.2.1) (fun _ u => u = dk.2.2) (fun W => f_L_ranked 0 x1 x2 W) W := by
  refine twin_of (G := fun W => f_X10_ranked 0 x1 x2 W) (G' := fun t H => f_X10_ranked t x1 x2 H) (V := fun W => f_V_ranked 0 x1 x2 205 W) (R := fun W => f_X11_ranked 155 x1 x2 W) (cv := cI) (p := (pk3 "java/lang/IndexOutOfBoundsException" "java/lang/IllegalArgumentException" "")) (ok := (fun k => k = 1 ∨ k = 2)) (wv := fun v => v) (we := wE) (EX := fun u W' => u = dk.2.2)
    (fun hE ht => y_X10_ranked ht hE) (fun hE ht => y_X11_ranked ht hE) (fun W k Wa h => v_ranked h) (fun W Wb v h0 h => ?_) (fun W Wb k hk h0 h => ?_) (fun v1 v2 h => toI64_inj h) (fun u W' k hx ht hk ho => hx) (fun u W' v hx ht ha => hx) (fun W h => ax_ranked h) g
  · unfold f_L_ranked
    rw [h0, Option.bind_some, h, Option.bind_some]
  · unfold f_L_ranked
    rcases hk with rfl | rfl
    · rw [pk3_1] at h ⊢
      rw [h0, Option.bind_some, h, Option.bind_some, wE_I]
      simp only [nAI, nSI, nSA, if_true, if_false]
    · rw [pk3_2] at h ⊢
      rw [h0, Option.bind_some, h, Option.bind_some, wE_A]
      simp only [nAI, nSI, nSA, if_true, if_false]
theorem v_keep {W Wa : tq_H} {k : Int32} (h : f_V_keep 0 205 W = some (k, Wa)) : ∃ r Wb, tq_is W 0 10 = some () ∧ f_X10_keep 0 W = some (r, Wb) ∧ ((∃ v, r = .inr v ∧ k = 0 ∧ tq_sl Wb 205 0 (cI v) = some Wa) ∨ (r = .inl ((pk3 "java/lang/IllegalStateException" "" "") k) ∧ k ≠ 0 ∧ (fun k => k = 1) k ∧ Wa = Wb)) := by
  unfold f_V_keep at h
  obtain ⟨⟨⟩, e0, h⟩ := tq_be h
  obtain ⟨⟨r, Wb⟩, e, h⟩ := tq_be h
  refine ⟨r, Wb, e0, e, ?_⟩
  cases r with
  | inl E =>
    right
    dsimp only at h
    by_cases c0 : E = "java/lang/IllegalStateException"
    · rw [if_pos c0] at h
      cases h
      exact ⟨by rw [c0, pk3_1], by decide, rfl, rfl⟩
    rw [if_neg c0] at h
    cases h
  | inr v =>
    left
    dsimp only at h
    obtain ⟨w, e5, h⟩ := tq_be h
    cases h
    exact ⟨v, rfl, rfl, e5⟩
theorem ax_keep {dk : DI} {W : tq_H} (h : InvE dk W) : ∃ W' u, AX (fun W => f_V_keep 0 205 W) (fun W => f_X11_keep 155 W) cI W W' ∧ InvE (dk.1, dk.2.1, u) W' ∧ u = dk.2.2 := by
  obtain ⟨W', e, i⟩ := arm_keep (n := 5) (xs := (x5 0 0 0 0)) (y4 := 0) h
  have e0 : f_V_law_c3231 5 (x5 0 0 0 0) 0 155 205 0 W = armI (f_V_keep 0 205 W) (f_X11_keep 155) 0 := by
    unfold f_V_law_c3231
    rfl
  rw [e0] at e
  exact ⟨W', dk.2.2, armI_x (V := fun W => f_V_keep 0 205 W) (R := fun W => f_X11_keep 155 W) e, i, rfl⟩
theorem tw_keep {dk : DI} {W : tq_H} (g : GI dk W) : Twin dk (dk.2.1) (fun _ u => u = dk.2.2) (fun W => f_L_keep 0 W) W := by
  refine twin_of (G := fun W => f_X10_keep 0 W) (G' := fun t H => f_X10_keep t H) (V := fun W => f_V_keep 0 205 W) (R := fun W => f_X11_keep 155 W) (cv := cI) (p := (pk3 "java/lang/IllegalStateException" "" "")) (ok := (fun k => k = 1)) (wv := fun v => v) (we := wE) (EX := fun u W' => u = dk.2.2)
    (fun hE ht => y_X10_keep trivial ht hE) (fun hE ht => y_X11_keep ht hE) (fun W k Wa h => v_keep h) (fun W Wb v h0 h => ?_) (fun W Wb k hk h0 h => ?_) (fun v1 v2 h => toI64_inj h) (fun u W' k hx ht hk ho => hx) (fun u W' v hx ht ha => hx) (fun W h => ax_keep h) g
  · unfold f_L_keep
    rw [h0, Option.bind_some, h, Option.bind_some]
  · unfold f_L_keep
    subst hk
    rw [pk3_1] at h ⊢
    rw [h0, Option.bind_some, h, Option.bind_some, wE_S]
    simp only [nAI, nSI, nSA, if_true, if_false]
theorem v_take {x1 : Int32} {W Wa : tq_H} {k : Int32} (h : f_V_take 0 x1 205 W = some (k, Wa)) : ∃ r Wb, tq_is W 0 10 = some () ∧ f_X10_take 0 x1 W = some (r, Wb) ∧ ((∃ v, r = .inr v ∧ k = 0 ∧ tq_sl Wb 205 0 (cI v) = some Wa) ∨ (r = .inl ((pk3 "java/lang/IndexOutOfBoundsException" "java/lang/IllegalStateException" "") k) ∧ k ≠ 0 ∧ (fun k => k = 1 ∨ k = 2) k ∧ Wa = Wb)) := by
  unfold f_V_take at h
  obtain ⟨⟨⟩, e0, h⟩ := tq_be h
  obtain ⟨⟨r, Wb⟩, e, h⟩ := tq_be h
  refine ⟨r, Wb, e0, e, ?_⟩
  cases r with
  | inl E =>
    right
    dsimp only at h
    by_cases c0 : E = "java/lang/IndexOutOfBoundsException"
    · rw [if_pos c0] at h
      cases h
      exact ⟨by rw [c0, pk3_1], by decide, Or.inl rfl, rfl⟩
    rw [if_neg c0] at h
    by_cases c1 : E = "java/lang/IllegalStateException"
    · rw [if_pos c1] at h
      cases h
      exact ⟨by rw [c1, pk3_2], by decide, Or.inr (rfl), rfl⟩
    rw [if_neg c1] at h
    cases h
  | inr v =>
    left
    dsimp only at h
    obtain ⟨w, e5, h⟩ := tq_be h
    cases h
    exact ⟨v, rfl, rfl, e5⟩
theorem ax_take {dk : DI} {x1 : Int32} {W : tq_H} (h : InvE dk W) : ∃ W' u, AX (fun W => f_V_take 0 x1 205 W) (fun W => f_X11_take 155 x1 W) cI W W' ∧ InvE (dk.1, dk.2.1, u) W' ∧ u = dk.2.2 := by
  obtain ⟨W', e, i⟩ := arm_take (n := 5) (xs := (x5 x1 0 0 0)) (y4 := 0) h (sx1 x1 0 0 0)
  have e0 : f_V_law_c3275 5 (x5 x1 0 0 0) 0 155 205 0 W = armI (f_V_take 0 x1 205 W) (f_X11_take 155 x1) 0 := by
    unfold f_V_law_c3275
    rw [(sx1 x1 0 0 0)]; rfl
  rw [e0] at e
  exact ⟨W', dk.2.2, armI_x (V := fun W => f_V_take 0 x1 205 W) (R := fun W => f_X11_take 155 x1 W) e, i, rfl⟩
theorem tw_take {dk : DI} {x1 : Int32} {W : tq_H} (g : GI dk W) : Twin dk (dk.2.1) (fun _ u => u = dk.2.2) (fun W => f_L_take 0 x1 W) W := by
  refine twin_of (G := fun W => f_X10_take 0 x1 W) (G' := fun t H => f_X10_take t x1 H) (V := fun W => f_V_take 0 x1 205 W) (R := fun W => f_X11_take 155 x1 W) (cv := cI) (p := (pk3 "java/lang/IndexOutOfBoundsException" "java/lang/IllegalStateException" "")) (ok := (fun k => k = 1 ∨ k = 2)) (wv := fun v => v) (we := wE) (EX := fun u W' => u = dk.2.2)
    (fun hE ht => y_X10_take ht hE) (fun hE ht => y_X11_take ht hE) (fun W k Wa h => v_take h) (fun W Wb v h0 h => ?_) (fun W Wb k hk h0 h => ?_) (fun v1 v2 h => toI64_inj h) (fun u W' k hx ht hk ho => hx) (fun u W' v hx ht ha => hx) (fun W h => ax_take h) g
  · unfold f_L_take
    rw [h0, Option.bind_some, h, Option.bind_some]
  · unfold f_L_take
    rcases hk with rfl | rfl
    · rw [pk3_1] at h ⊢
      rw [h0, Option.bind_some, h, Option.bind_some, wE_I]
      simp only [nAI, nSI, nSA, if_true, if_false]
    · rw [pk3_2] at h ⊢
      rw [h0, Option.bind_some, h, Option.bind_some, wE_S]
      simp only [nAI, nSI, nSA, if_true, if_false]
theorem v_distance {x1 x2 : Int32} {W Wa : tq_H} {k : Int32} (h : f_V_distance 0 x1 x2 205 W = some (k, Wa)) : ∃ r Wb, tq_is W 0 10 = some () ∧ f_X10_distance 0 x1 x2 W = some (r, Wb) ∧ ((∃ v, r = .inr v ∧ k = 0 ∧ tq_sl Wb 205 0 (cI v) = some Wa) ∨ (r = .inl ((pk3 "java/lang/IndexOutOfBoundsException" "" "") k) ∧ k ≠ 0 ∧ (fun k => k = 1) k ∧ Wa = Wb)) := by
  unfold f_V_distance at h
  obtain ⟨⟨⟩, e0, h⟩ := tq_be h
  obtain ⟨⟨r, Wb⟩, e, h⟩ := tq_be h
  refine ⟨r, Wb, e0, e, ?_⟩
  cases r with
  | inl E =>
    right
    dsimp only at h
    by_cases c0 : E = "java/lang/IndexOutOfBoundsException"
    · rw [if_pos c0] at h
      cases h
      exact ⟨by rw [c0, pk3_1], by decide, rfl, rfl⟩
    rw [if_neg c0] at h
    cases h
  | inr v =>
    left
    dsimp only at h
    obtain ⟨w, e5, h⟩ := tq_be h
    cases h
    exact ⟨v, rfl, rfl, e5⟩
theorem ax_distance {kq : Nat × Nat} {x1 x2 : Int32} {W : tq_H} (h : InvE (dist, kq) W) : ∃ W' u, AX (fun W => f_V_distance 0 x1 x2 205 W) (fun W => f_X11_distance 155 x1 x2 W) cI W W' ∧ InvE (dist, kq.1, u) W' ∧ u = kq.2 := by
  obtain ⟨W', e, i⟩ := arm_distance (n := 5) (xs := (x5 x1 x2 0 0)) (y4 := 0) h (sx1 x1 x2 0 0) (sx2 x1 x2 0 0)
  have e0 : f_V_law_c3331 5 (x5 x1 x2 0 0) 0 155 205 0 W = armI (f_V_distance 0 x1 x2 205 W) (f_X11_distance 155 x1 x2) 0 := by
    unfold f_V_law_c3331
    rw [(sx1 x1 x2 0 0), (sx2 x1 x2 0 0)]; rfl
  rw [e0] at e
  exact ⟨W', kq.2, armI_x (V := fun W => f_V_distance 0 x1 x2 205 W) (R := fun W => f_X11_distance 155 x1 x2 W) e, i, rfl⟩
theorem tw_distance {kq : Nat × Nat} {x1 x2 : Int32} {W : tq_H} (g : GI (dist, kq) W) : Twin (dist, kq) (kq.1) (fun _ u => u = kq.2) (fun W => f_L_distance 0 x1 x2 W) W := by
  refine twin_of (G := fun W => f_X10_distance 0 x1 x2 W) (G' := fun t H => f_X10_distance t x1 x2 H) (V := fun W => f_V_distance 0 x1 x2 205 W) (R := fun W => f_X11_distance 155 x1 x2 W) (cv := cI) (p := (pk3 "java/lang/IndexOutOfBoundsException" "" "")) (ok := (fun k => k = 1)) (wv := fun v => v) (we := wE) (EX := fun u W' => u = kq.2)
    (fun hE ht => y_X10_distance trivial ht hE) (fun hE ht => y_X11_distance ht hE) (fun W k Wa h => v_distance h) (fun W Wb v h0 h => ?_) (fun W Wb k hk h0 h => ?_) (fun v1 v2 h => toI64_inj h) (fun u W' k hx ht hk ho => hx) (fun u W' v hx ht ha => hx) (fun W h => ax_distance h) g
  · unfold f_L_distance
    rw [h0, Option.bind_some, h, Option.bind_some]
  · unfold f_L_distance
    subst hk
    rw [pk3_1] at h ⊢
    rw [h0, Option.bind_some, h, Option.bind_some, wE_I]
    simp only [nAI, nSI, nSA, if_true, if_false]
theorem v_odds {x1 x2 x3 : Int32} {W Wa : tq_H} {k : Int32} (h : f_V_odds 0 x1 x2 x3 205 W = some (k, Wa)) : ∃ r Wb, tq_is W 0 10 = some () ∧ f_X10_odds 0 x1 x2 x3 W = some (r, Wb) ∧ ((∃ v, r = .inr v ∧ k = 0 ∧ tq_sl Wb 205 0 (cI v) = some Wa) ∨ (r = .inl ((pk3 "java/lang/IndexOutOfBoundsException" "" "") k) ∧ k ≠ 0 ∧ (fun k => k = 1) k ∧ Wa = Wb)) := by
  unfold f_V_odds at h
  obtain ⟨⟨⟩, e0, h⟩ := tq_be h
  obtain ⟨⟨r, Wb⟩, e, h⟩ := tq_be h
  refine ⟨r, Wb, e0, e, ?_⟩
  cases r with
  | inl E =>
    right
    dsimp only at h
    by_cases c0 : E = "java/lang/IndexOutOfBoundsException"
    · rw [if_pos c0] at h
      cases h
      exact ⟨by rw [c0, pk3_1], by decide, rfl, rfl⟩
    rw [if_neg c0] at h
    cases h
  | inr v =>
    left
    dsimp only at h
    obtain ⟨w, e5, h⟩ := tq_be h
    cases h
    exact ⟨v, rfl, rfl, e5⟩
theorem ax_odds {dk : DI} {x1 x2 x3 : Int32} {W : tq_H} (h : InvE dk W) : ∃ W' u, AX (fun W => f_V_odds 0 x1 x2 x3 205 W) (fun W => f_X11_odds 155 x1 x2 x3 W) cI W W' ∧ InvE (dk.1, dk.2.1, u) W' ∧ u = dk.2.2 := by
  obtain ⟨W', e, i⟩ := arm_odds (n := 5) (xs := (x5 x1 x2 x3 0)) (y4 := 0) h (sx1 x1 x2 x3 0) (sx2 x1 x2 x3 0) (sx3 x1 x2 x3 0)
  have e0 : f_V_law_c3399 5 (x5 x1 x2 x3 0) 0 155 205 0 W = armI (f_V_odds 0 x1 x2 x3 205 W) (f_X11_odds 155 x1 x2 x3) 0 := by
    unfold f_V_law_c3399
    rw [(sx1 x1 x2 x3 0), (sx2 x1 x2 x3 0), (sx3 x1 x2 x3 0)]; rfl
  rw [e0] at e
  exact ⟨W', dk.2.2, armI_x (V := fun W => f_V_odds 0 x1 x2 x3 205 W) (R := fun W => f_X11_odds 155 x1 x2 x3 W) e, i, rfl⟩
theorem tw_odds {dk : DI} {x1 x2 x3 : Int32} {W : tq_H} (g : GI dk W) : Twin dk (dk.2.1) (fun _ u => u = dk.2.2) (fun W => f_L_odds 0 x1 x2 x3 W) W := by
  refine twin_of (G := fun W => f_X10_odds 0 x1 x2 x3 W) (G' := fun t H => f_X10_odds t x1 x2 x3 H) (V := fun W => f_V_odds 0 x1 x2 x3 205 W) (R := fun W => f_X11_odds 155 x1 x2 x3 W) (cv := cI) (p := (pk3 "java/lang/IndexOutOfBoundsException" "" "")) (ok := (fun k => k = 1)) (wv := fun v => v) (we := wE) (EX := fun u W' => u = dk.2.2)
    (fun hE ht => y_X10_odds ht hE) (fun hE ht => y_X11_odds ht hE) (fun W k Wa h => v_odds h) (fun W Wb v h0 h => ?_) (fun W Wb k hk h0 h => ?_) (fun v1 v2 h => toI64_inj h) (fun u W' k hx ht hk ho => hx) (fun u W' v hx ht ha => hx) (fun W h => ax_odds h) g
  · unfold f_L_odds
    rw [h0, Option.bind_some, h, Option.bind_some]
  · unfold f_L_odds
    subst hk
    rw [pk3_1] at h ⊢
    rw [h0, Option.bind_some, h, Option.bind_some, wE_I]
    simp only [nAI, nSI, nSA, if_true, if_false]
theorem v_hide {x1 : Int32} {W Wa : tq_H} {k : Int32} (h : f_V_hide 0 x1 205 W = some (k, Wa)) : ∃ r Wb, tq_is W 0 10 = some () ∧ f_X10_hide 0 x1 W = some (r, Wb) ∧ ((∃ v, r = .inr v ∧ k = 0 ∧ tq_sl Wb 205 0 (cB v) = some Wa) ∨ (r = .inl ((pk3 "java/lang/IndexOutOfBoundsException" "java/lang/IllegalStateException" "") k) ∧ k ≠ 0 ∧ (fun k => k = 1 ∨ k = 2) k ∧ Wa = Wb)) := by
  unfold f_V_hide at h
  obtain ⟨⟨⟩, e0, h⟩ := tq_be h
  obtain ⟨⟨r, Wb⟩, e, h⟩ := tq_be h
  refine ⟨r, Wb, e0, e, ?_⟩
  cases r with
  | inl E =>
    right
    dsimp only at h
    by_cases c0 : E = "java/lang/IndexOutOfBoundsException"
    · rw [if_pos c0] at h
      cases h
      exact ⟨by rw [c0, pk3_1], by decide, Or.inl rfl, rfl⟩
    rw [if_neg c0] at h
    by_cases c1 : E = "java/lang/IllegalStateException"
    · rw [if_pos c1] at h
      cases h
      exact ⟨by rw [c1, pk3_2], by decide, Or.inr (rfl), rfl⟩
    rw [if_neg c1] at h
    cases h
  | inr v =>
    left
    dsimp only at h
    unfold tq_let at h
    obtain ⟨w, e5, h⟩ := tq_be h
    cases h
    exact ⟨v, rfl, rfl, e5⟩
theorem ax_hide {dk : DI} {x1 : Int32} {W : tq_H} (h : InvE dk W) : ∃ W' u, AX (fun W => f_V_hide 0 x1 205 W) (fun W => f_X11_hide 155 x1 W) cB W W' ∧ InvE (dk.1, dk.2.1, u) W' ∧ u = dk.2.2 := by
  obtain ⟨W', e, i⟩ := arm_hide (n := 5) (xs := (x5 x1 0 0 0)) (y4 := 0) h (sx1 x1 0 0 0)
  have e0 : f_V_law_c3479 5 (x5 x1 0 0 0) 0 155 205 0 W = armB (f_V_hide 0 x1 205 W) (f_X11_hide 155 x1) 0 := by
    unfold f_V_law_c3479
    rw [(sx1 x1 0 0 0)]; rfl
  rw [e0] at e
  exact ⟨W', dk.2.2, armB_x (V := fun W => f_V_hide 0 x1 205 W) (R := fun W => f_X11_hide 155 x1 W) e, i, rfl⟩
theorem tw_hide {dk : DI} {x1 : Int32} {W : tq_H} (g : GI dk W) : Twin dk (dk.2.1) (fun _ u => u = dk.2.2) (fun W => f_L_hide 0 x1 W) W := by
  refine twin_of (G := fun W => f_X10_hide 0 x1 W) (G' := fun t H => f_X10_hide t x1 H) (V := fun W => f_V_hide 0 x1 205 W) (R := fun W => f_X11_hide 155 x1 W) (cv := cB) (p := (pk3 "java/lang/IndexOutOfBoundsException" "java/lang/IllegalStateException" "")) (ok := (fun k => k = 1 ∨ k = 2)) (wv := wB) (we := wE) (EX := fun u W' => u = dk.2.2)
    (fun hE ht => y_X10_hide ht hE) (fun hE ht => y_X11_hide ht hE) (fun W k Wa h => v_hide h) (fun W Wb v h0 h => ?_) (fun W Wb k hk h0 h => ?_) (fun v1 v2 h => wB_eq h) (fun u W' k hx ht hk ho => hx) (fun u W' v hx ht ha => hx) (fun W h => ax_hide h) g
  · unfold f_L_hide
    rw [h0, Option.bind_some, h, Option.bind_some]
    rfl
  · unfold f_L_hide
    rcases hk with rfl | rfl
    · rw [pk3_1] at h ⊢
      rw [h0, Option.bind_some, h, Option.bind_some, wE_I]
      simp only [nAI, nSI, nSA, if_true, if_false]
    · rw [pk3_2] at h ⊢
      rw [h0, Option.bind_some, h, Option.bind_some, wE_S]
      simp only [nAI, nSI, nSA, if_true, if_false]
theorem v_seen {x1 : Int32} {W Wa : tq_H} {k : Int32} (h : f_V_isSeen 0 x1 205 W = some (k, Wa)) : ∃ r Wb, tq_is W 0 10 = some () ∧ f_X10_isSeen 0 x1 W = some (r, Wb) ∧ ((∃ v, r = .inr v ∧ k = 0 ∧ tq_sl Wb 205 0 (cB v) = some Wa) ∨ (r = .inl ((pk3 "java/lang/IndexOutOfBoundsException" "" "") k) ∧ k ≠ 0 ∧ (fun k => k = 1) k ∧ Wa = Wb)) := by
  unfold f_V_isSeen at h
  obtain ⟨⟨⟩, e0, h⟩ := tq_be h
  obtain ⟨⟨r, Wb⟩, e, h⟩ := tq_be h
  refine ⟨r, Wb, e0, e, ?_⟩
  cases r with
  | inl E =>
    right
    dsimp only at h
    by_cases c0 : E = "java/lang/IndexOutOfBoundsException"
    · rw [if_pos c0] at h
      cases h
      exact ⟨by rw [c0, pk3_1], by decide, rfl, rfl⟩
    rw [if_neg c0] at h
    cases h
  | inr v =>
    left
    dsimp only at h
    unfold tq_let at h
    obtain ⟨w, e5, h⟩ := tq_be h
    cases h
    exact ⟨v, rfl, rfl, e5⟩
theorem ax_seen {dk : DI} {x1 : Int32} {W : tq_H} (h : InvE dk W) : ∃ W' u, AX (fun W => f_V_isSeen 0 x1 205 W) (fun W => f_X11_isSeen 155 x1 W) cB W W' ∧ InvE (dk.1, dk.2.1, u) W' ∧ u = dk.2.2 := by
  obtain ⟨W', e, i⟩ := arm_isSeen (n := 5) (xs := (x5 x1 0 0 0)) (y4 := 0) h (sx1 x1 0 0 0)
  have e0 : f_V_law_c3542 5 (x5 x1 0 0 0) 0 155 205 0 W = armB (f_V_isSeen 0 x1 205 W) (f_X11_isSeen 155 x1) 0 := by
    unfold f_V_law_c3542
    rw [(sx1 x1 0 0 0)]; rfl
  rw [e0] at e
  exact ⟨W', dk.2.2, armB_x (V := fun W => f_V_isSeen 0 x1 205 W) (R := fun W => f_X11_isSeen 155 x1 W) e, i, rfl⟩
theorem tw_seen {dk : DI} {x1 : Int32} {W : tq_H} (g : GI dk W) : Twin dk (dk.2.1) (fun _ u => u = dk.2.2) (fun W => f_L_seen 0 x1 W) W := by
  refine twin_of (G := fun W => f_X10_isSeen 0 x1 W) (G' := fun t H => f_X10_isSeen t x1 H) (V := fun W => f_V_isSeen 0 x1 205 W) (R := fun W => f_X11_isSeen 155 x1 W) (cv := cB) (p := (pk3 "java/lang/IndexOutOfBoundsException" "" "")) (ok := (fun k => k = 1)) (wv := wB) (we := wE) (EX := fun u W' => u = dk.2.2)
    (fun hE ht => y_X10_isSeen ht hE) (fun hE ht => y_X11_isSeen ht hE) (fun W k Wa h => v_seen h) (fun W Wb v h0 h => ?_) (fun W Wb k hk h0 h => ?_) (fun v1 v2 h => wB_eq h) (fun u W' k hx ht hk ho => hx) (fun u W' v hx ht ha => hx) (fun W h => ax_seen h) g
  · unfold f_L_seen
    rw [h0, Option.bind_some, h, Option.bind_some]
    rfl
  · unfold f_L_seen
    subst hk
    rw [pk3_1] at h ⊢
    rw [h0, Option.bind_some, h, Option.bind_some, wE_I]
    simp only [nAI, nSI, nSA, if_true, if_false]
