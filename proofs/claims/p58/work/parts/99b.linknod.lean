/-! ===== links and rows make the document ===== -/
section LNOD
variable {S : tq_H} {c c' : tc_C} {b m i j e v : Nat} {F : Nat → List Nat} {pa : Nat → Nat} {R : Rws}
theorem szF_cons {w : Nat} (Y : List Nat) : szF F (w :: Y) = szF F [w] + szF F Y := szF_app [w] Y
theorem Lnk.nod (hL : Lnk c b F) (h : Frs0 F pa) (hm : m ≤ 60) (hlt : ∀ v, Rch F v → v < m) (hmc : c.2.2.1 b 10 = nI m)
    (r1 : ∀ v, Rch F v → c.1 (b + 23) v = R.1 v) (r2 : ∀ v, Rch F v → c.1 (b + 25) v = R.2.1 v) (r3 : ∀ v, Rch F v → c.1 (b + 27) v = R.2.2.1 v) (r4 : ∀ v, Rch F v → c.1 (b + 29) v = R.2.2.2 v) : Nod c b (mkF F pa R) m := by
  obtain ⟨l1, l2, l3, l4, l5, l6⟩ := hL
  have h0 := (mkF_0 (R := R) h).1
  have n0 : ∀ v, 0 ∉ F v := fun v z => (h.1 v 0 z).2.2 rfl
  refine ⟨hm, fun i hi => hlt _ (mkF_rch h hi), hmc, fun i hi => r1 _ (mkF_rch h hi), fun i hi => r2 _ (mkF_rch h hi), fun i hi => r3 _ (mkF_rch h hi), fun i hi => r4 _ (mkF_rch h hi), fun i hi => ?_, fun i hi => ?_, fun i hi => ?_⟩
  · by_cases q : i = 0
    · subst q
      rw [if_pos rfl, h0]
      exact l2 0 (by decide) n0
    · rw [if_neg q]
      obtain ⟨-, X, Y, hF, -⟩ := mkF_kid' (R := R) h (Nat.pos_of_ne_zero q) hi
      exact l1 _ _ (by rw [hF]; simp)
  · have h60 : (mkF F pa R).ord i < 60 := by have := hlt _ (mkF_rch (R := R) h hi); omega
    rw [l3 _ h60, mkF_en h hi]
    cases q : F ((mkF F pa R).ord i) with
    | nil => rw [if_neg (by show ¬ i + 1 < i + 1 + 0; omega)]; rfl
    | cons w Y =>
      obtain ⟨k1, k2, -⟩ := mkF_kid (R := R) h hi (X := []) q
      have : 0 < szF F [w] := szF_one h
      rw [if_pos (by rw [szF_cons]; omega)]
      show nI w = _
      rw [← k2]; rfl
  · by_cases q : i = 0
    · subst q
      rw [if_neg (by omega), h0]
      exact l6 0 (by decide) n0
    · have hq := Nat.pos_of_ne_zero q
      obtain ⟨u1, X, Y, hF, hj⟩ := mkF_kid' (R := R) h hq hi
      have hp : (mkF F pa R).up i < (mkF F pa R).n := by omega
      rw [l5 _ _ _ _ hF, mkF_en h hp, hF]
      have he := (mkF_kid (R := R) h hp hF).2.2.2
      rw [← hj] at he
      rw [he]
      cases Y with
      | nil =>
        rw [if_neg (by omega)]; rfl
      | cons w Y =>
        have hF2 : F ((mkF F pa R).ord ((mkF F pa R).up i)) = (X ++ [(mkF F pa R).ord i]) ++ w :: Y := by rw [hF]; simp
        obtain ⟨k1, k2, -⟩ := mkF_kid (R := R) h hp hF2
        have h1 : 0 < szF F [w] := szF_one h
        have h2 : szF F (X ++ (mkF F pa R).ord i :: w :: Y) = szF F (X ++ [(mkF F pa R).ord i]) + (szF F [w] + szF F Y) := by
          rw [show X ++ (mkF F pa R).ord i :: w :: Y = (X ++ [(mkF F pa R).ord i]) ++ ([w] ++ Y) by simp, szF_app, szF_app [w]]
        rw [if_pos ⟨hq, by rw [h2]; omega⟩, k2]; rfl
end LNOD
