/-! ===== the shapes of the objects, and what reading and writing them gives (printed) ===== -/
section TC6
variable {S : tq_H} {q a n : Nat}
theorem tc_Row.f (h : tc_Row S q a n) : (∀ c, tq_is (tc_mk S c) q 5 = some ()) ∧ (∀ c i, f_X5_get q i (tc_mk S c) = some (rg n (c.1 a) i)) ∧ (∀ c i x, f_X5_set q i x (tc_mk S c) = some (tc_mk S (tc_I c a (rs n (c.1 a) i x)))) ∧ (∀ c x, f_X5_setAll q x (tc_mk S c) = some (tc_mk S (tc_I c a (fun j => if j < n then x else c.1 a j)))) := ⟨fun _ => tc_is h.1, fun _ i => s_X5_get h i, fun _ i x => s_X5_set h i x, fun _ x => s_X5_setAll h x⟩
theorem tc_Set.f (h : tc_Set S q a n) : (∀ c, tq_is (tc_mk S c) q 7 = some ()) ∧ (∀ c i, f_X7_get q i (tc_mk S c) = some (sg n (c.2.1 a) i)) ∧ (∀ c i x, f_X7_set q i x (tc_mk S c) = some (tc_mk S (tc_J c a (ss n (c.2.1 a) i x)))) ∧ (∀ c i x, f_X7_add q i x (tc_mk S c) = some (tc_mk S (tc_J c a (ss n (c.2.1 a) i (sg n (c.2.1 a) i ||| oneI x))))) ∧ (∀ c, f_X7_emptyAll q (tc_mk S c) = some (tc_mk S (tc_J c a (fun j => if j < n then 0 else c.2.1 a j)))) := ⟨fun _ => tc_is h.1, fun _ i => s_X7_get h i, fun _ i x => s_X7_set h i x, fun _ i x => s_X7_add h i x, fun _ => s_X7_emptyAll h⟩
end TC6
theorem tc_aiN {S : tq_H} {c : tc_C} {q n : Nat} (h : ∃ g : Nat → Int32, S.2 q = .inr (0, (n, .inl g))) {k : Nat} (hk : k < n) (hn : n < 2 ^ 31) : tq_ai (tc_mk S c) q (nI k) = some (c.1 q k) := by
  obtain ⟨g, h⟩ := h
  rw [tc_ai h, if_neg (nI_in hk hn), nI_clamp (Nat.lt_trans hk hn)]
theorem tc_siN {S : tq_H} {c : tc_C} {q n : Nat} (h : ∃ g : Nat → Int32, S.2 q = .inr (0, (n, .inl g))) {k : Nat} (x : Int32) (hk : k < n) (hn : n < 2 ^ 31) : tq_si (tc_mk S c) q (nI k) x = some (tc_mk S (tc_I c q (upd (c.1 q) k x))) := by
  obtain ⟨g, h⟩ := h
  rw [tc_si h, if_neg (nI_in hk hn), nI_clamp (Nat.lt_trans hk hn)]
theorem tc_azN {S : tq_H} {c : tc_C} {q n : Nat} (h : ∃ g : Nat → Int32, S.2 q = .inr (1, (n, .inl g))) {k : Nat} (hk : k < n) (hn : n < 2 ^ 31) : tq_az (tc_mk S c) q (nI k) = some (c.1 q k) := by
  obtain ⟨g, h⟩ := h
  rw [tc_az h, if_neg (nI_in hk hn), nI_clamp (Nat.lt_trans hk hn)]
theorem tc_szN {S : tq_H} {c : tc_C} {q n : Nat} (h : ∃ g : Nat → Int32, S.2 q = .inr (1, (n, .inl g))) {k : Nat} (b : Bool) (hk : k < n) (hn : n < 2 ^ 31) : tq_sz (tc_mk S c) q (nI k) (bI b) = some (tc_mk S (tc_I c q (upd (c.1 q) k (bI b)))) := by
  obtain ⟨g, h⟩ := h
  rw [tc_sz h, if_neg (nI_in hk hn), nI_clamp (Nat.lt_trans hk hn), if_pos (by cases b <;> decide)]
theorem tc_ajN {S : tq_H} {c : tc_C} {q n : Nat} (h : ∃ g : Nat → Int64, S.2 q = .inr (2, (n, .inr (.inl g)))) {k : Nat} (hk : k < n) (hn : n < 2 ^ 31) : tq_aj (tc_mk S c) q (nI k) = some (c.2.1 q k) := by
  obtain ⟨g, h⟩ := h
  rw [tc_aj h, if_neg (nI_in hk hn), nI_clamp (Nat.lt_trans hk hn)]
theorem tc_slN {S : tq_H} {c : tc_C} {q n : Nat} (h : ∃ g : Nat → Int64, S.2 q = .inr (2, (n, .inr (.inl g)))) {k : Nat} (x : Int64) (hk : k < n) (hn : n < 2 ^ 31) : tq_sl (tc_mk S c) q (nI k) x = some (tc_mk S (tc_J c q (vp_updL (c.2.1 q) k x))) := by
  obtain ⟨g, h⟩ := h
  rw [tc_sl h, if_neg (nI_in hk hn), nI_clamp (Nat.lt_trans hk hn)]
def tc_Tree (S : tq_H) (b : Nat) : Prop :=
  S.2 (b) = .inl (8, [.ref (b + 1), .ref (b + 22), .ref (b + 24), .ref (b + 26), .ref (b + 28), .ref (b + 30), .ref (b + 32), .ref (b + 34), .ref (b + 36), .ref (b + 38), .int 0]) ∧
  S.2 (b + 1) = .inl (3, [.ref (b + 2), .ref (b + 4), .ref (b + 6), .ref (b + 8), .ref (b + 10), .ref (b + 12), .ref (b + 14), .ref (b + 16), .ref (b + 18), .ref (b + 20), .long 0, .long 0, .int 0]) ∧
  tc_Row S (b + 2) (b + 3) 60 ∧
  tc_Row S (b + 4) (b + 5) 60 ∧
  tc_Row S (b + 6) (b + 7) 60 ∧
  tc_Row S (b + 8) (b + 9) 60 ∧
  tc_Row S (b + 10) (b + 11) 60 ∧
  tc_Set S (b + 12) (b + 13) 60 ∧
  tc_Set S (b + 14) (b + 15) 60 ∧
  tc_Set S (b + 16) (b + 17) 60 ∧
  tc_Set S (b + 18) (b + 19) 60 ∧
  tc_Set S (b + 20) (b + 21) 14 ∧
  tc_Row S (b + 22) (b + 23) 60 ∧
  tc_Row S (b + 24) (b + 25) 60 ∧
  tc_Row S (b + 26) (b + 27) 60 ∧
  tc_Row S (b + 28) (b + 29) 60 ∧
  tc_Row S (b + 30) (b + 31) 60 ∧
  tc_Row S (b + 32) (b + 33) 60 ∧
  tc_Row S (b + 34) (b + 35) 60 ∧
  tc_Row S (b + 36) (b + 37) 60 ∧
  tc_Row S (b + 38) (b + 39) 60
theorem tc_Tree.f {S : tq_H} {b : Nat} (h : tc_Tree S b) :
  (∀ c, tq_is (tc_mk S c) (b) 8 = some ()) ∧
  (∀ c, tq_gr (tc_mk S c) (b) 8 0 = some (b + 1)) ∧
  (∀ c, tq_gr (tc_mk S c) (b) 8 1 = some (b + 22)) ∧
  (∀ c, tq_gr (tc_mk S c) (b) 8 2 = some (b + 24)) ∧
  (∀ c, tq_gr (tc_mk S c) (b) 8 3 = some (b + 26)) ∧
  (∀ c, tq_gr (tc_mk S c) (b) 8 4 = some (b + 28)) ∧
  (∀ c, tq_gr (tc_mk S c) (b) 8 5 = some (b + 30)) ∧
  (∀ c, tq_gr (tc_mk S c) (b) 8 6 = some (b + 32)) ∧
  (∀ c, tq_gr (tc_mk S c) (b) 8 7 = some (b + 34)) ∧
  (∀ c, tq_gr (tc_mk S c) (b) 8 8 = some (b + 36)) ∧
  (∀ c, tq_gr (tc_mk S c) (b) 8 9 = some (b + 38)) ∧
  (∀ c, tq_gi (tc_mk S c) (b) 8 10 = some (c.2.2.1 (b) 10)) ∧
  (∀ c x, tq_pf (tc_mk S c) (b) 8 10 (.int x) = some (tc_mk S (tc_F c (b) 10 x))) ∧
  (∀ c, tq_is (tc_mk S c) (b + 1) 3 = some ()) ∧
  (∀ c, tq_gr (tc_mk S c) (b + 1) 3 0 = some (b + 2)) ∧
  (∀ c, tq_gr (tc_mk S c) (b + 1) 3 1 = some (b + 4)) ∧
  (∀ c, tq_gr (tc_mk S c) (b + 1) 3 2 = some (b + 6)) ∧
  (∀ c, tq_gr (tc_mk S c) (b + 1) 3 3 = some (b + 8)) ∧
  (∀ c, tq_gr (tc_mk S c) (b + 1) 3 4 = some (b + 10)) ∧
  (∀ c, tq_gr (tc_mk S c) (b + 1) 3 5 = some (b + 12)) ∧
  (∀ c, tq_gr (tc_mk S c) (b + 1) 3 6 = some (b + 14)) ∧
  (∀ c, tq_gr (tc_mk S c) (b + 1) 3 7 = some (b + 16)) ∧
  (∀ c, tq_gr (tc_mk S c) (b + 1) 3 8 = some (b + 18)) ∧
  (∀ c, tq_gr (tc_mk S c) (b + 1) 3 9 = some (b + 20)) ∧
  (∀ c, tq_gl (tc_mk S c) (b + 1) 3 10 = some (c.2.2.2.1 (b + 1) 10)) ∧
  (∀ c x, tq_pf (tc_mk S c) (b + 1) 3 10 (.long x) = some (tc_mk S (tc_G c (b + 1) 10 x))) ∧
  (∀ c, tq_gl (tc_mk S c) (b + 1) 3 11 = some (c.2.2.2.1 (b + 1) 11)) ∧
  (∀ c x, tq_pf (tc_mk S c) (b + 1) 3 11 (.long x) = some (tc_mk S (tc_G c (b + 1) 11 x))) ∧
  (∀ c, tq_gi (tc_mk S c) (b + 1) 3 12 = some (c.2.2.1 (b + 1) 12)) ∧
  (∀ c x, tq_pf (tc_mk S c) (b + 1) 3 12 (.int x) = some (tc_mk S (tc_F c (b + 1) 12 x))) ∧
  (∀ c, tq_is (tc_mk S c) (b + 2) 5 = some ()) ∧
  (∀ c i, f_X5_get (b + 2) i (tc_mk S c) = some (rg 60 (c.1 (b + 3)) i)) ∧
  (∀ c i x, f_X5_set (b + 2) i x (tc_mk S c) = some (tc_mk S (tc_I c (b + 3) (rs 60 (c.1 (b + 3)) i x)))) ∧
  (∀ c x, f_X5_setAll (b + 2) x (tc_mk S c) = some (tc_mk S (tc_I c (b + 3) (fun j => if j < 60 then x else c.1 (b + 3) j)))) ∧
  (∀ c, tq_is (tc_mk S c) (b + 4) 5 = some ()) ∧
  (∀ c i, f_X5_get (b + 4) i (tc_mk S c) = some (rg 60 (c.1 (b + 5)) i)) ∧
  (∀ c i x, f_X5_set (b + 4) i x (tc_mk S c) = some (tc_mk S (tc_I c (b + 5) (rs 60 (c.1 (b + 5)) i x)))) ∧
  (∀ c x, f_X5_setAll (b + 4) x (tc_mk S c) = some (tc_mk S (tc_I c (b + 5) (fun j => if j < 60 then x else c.1 (b + 5) j)))) ∧
  (∀ c, tq_is (tc_mk S c) (b + 6) 5 = some ()) ∧
  (∀ c i, f_X5_get (b + 6) i (tc_mk S c) = some (rg 60 (c.1 (b + 7)) i)) ∧
  (∀ c i x, f_X5_set (b + 6) i x (tc_mk S c) = some (tc_mk S (tc_I c (b + 7) (rs 60 (c.1 (b + 7)) i x)))) ∧
  (∀ c x, f_X5_setAll (b + 6) x (tc_mk S c) = some (tc_mk S (tc_I c (b + 7) (fun j => if j < 60 then x else c.1 (b + 7) j)))) ∧
  (∀ c, tq_is (tc_mk S c) (b + 8) 5 = some ()) ∧
  (∀ c i, f_X5_get (b + 8) i (tc_mk S c) = some (rg 60 (c.1 (b + 9)) i)) ∧
  (∀ c i x, f_X5_set (b + 8) i x (tc_mk S c) = some (tc_mk S (tc_I c (b + 9) (rs 60 (c.1 (b + 9)) i x)))) ∧
  (∀ c x, f_X5_setAll (b + 8) x (tc_mk S c) = some (tc_mk S (tc_I c (b + 9) (fun j => if j < 60 then x else c.1 (b + 9) j)))) ∧
  (∀ c, tq_is (tc_mk S c) (b + 10) 5 = some ()) ∧
  (∀ c i, f_X5_get (b + 10) i (tc_mk S c) = some (rg 60 (c.1 (b + 11)) i)) ∧
  (∀ c i x, f_X5_set (b + 10) i x (tc_mk S c) = some (tc_mk S (tc_I c (b + 11) (rs 60 (c.1 (b + 11)) i x)))) ∧
  (∀ c x, f_X5_setAll (b + 10) x (tc_mk S c) = some (tc_mk S (tc_I c (b + 11) (fun j => if j < 60 then x else c.1 (b + 11) j)))) ∧
  (∀ c, tq_is (tc_mk S c) (b + 12) 7 = some ()) ∧
  (∀ c i, f_X7_get (b + 12) i (tc_mk S c) = some (sg 60 (c.2.1 (b + 13)) i)) ∧
  (∀ c i x, f_X7_set (b + 12) i x (tc_mk S c) = some (tc_mk S (tc_J c (b + 13) (ss 60 (c.2.1 (b + 13)) i x)))) ∧
  (∀ c i x, f_X7_add (b + 12) i x (tc_mk S c) = some (tc_mk S (tc_J c (b + 13) (ss 60 (c.2.1 (b + 13)) i (sg 60 (c.2.1 (b + 13)) i ||| oneI x))))) ∧
  (∀ c, f_X7_emptyAll (b + 12) (tc_mk S c) = some (tc_mk S (tc_J c (b + 13) (fun j => if j < 60 then 0 else c.2.1 (b + 13) j)))) ∧
  (∀ c, tq_is (tc_mk S c) (b + 14) 7 = some ()) ∧
  (∀ c i, f_X7_get (b + 14) i (tc_mk S c) = some (sg 60 (c.2.1 (b + 15)) i)) ∧
  (∀ c i x, f_X7_set (b + 14) i x (tc_mk S c) = some (tc_mk S (tc_J c (b + 15) (ss 60 (c.2.1 (b + 15)) i x)))) ∧
  (∀ c i x, f_X7_add (b + 14) i x (tc_mk S c) = some (tc_mk S (tc_J c (b + 15) (ss 60 (c.2.1 (b + 15)) i (sg 60 (c.2.1 (b + 15)) i ||| oneI x))))) ∧
  (∀ c, f_X7_emptyAll (b + 14) (tc_mk S c) = some (tc_mk S (tc_J c (b + 15) (fun j => if j < 60 then 0 else c.2.1 (b + 15) j)))) ∧
  (∀ c, tq_is (tc_mk S c) (b + 16) 7 = some ()) ∧
  (∀ c i, f_X7_get (b + 16) i (tc_mk S c) = some (sg 60 (c.2.1 (b + 17)) i)) ∧
  (∀ c i x, f_X7_set (b + 16) i x (tc_mk S c) = some (tc_mk S (tc_J c (b + 17) (ss 60 (c.2.1 (b + 17)) i x)))) ∧
  (∀ c i x, f_X7_add (b + 16) i x (tc_mk S c) = some (tc_mk S (tc_J c (b + 17) (ss 60 (c.2.1 (b + 17)) i (sg 60 (c.2.1 (b + 17)) i ||| oneI x))))) ∧
  (∀ c, f_X7_emptyAll (b + 16) (tc_mk S c) = some (tc_mk S (tc_J c (b + 17) (fun j => if j < 60 then 0 else c.2.1 (b + 17) j)))) ∧
  (∀ c, tq_is (tc_mk S c) (b + 18) 7 = some ()) ∧
  (∀ c i, f_X7_get (b + 18) i (tc_mk S c) = some (sg 60 (c.2.1 (b + 19)) i)) ∧
  (∀ c i x, f_X7_set (b + 18) i x (tc_mk S c) = some (tc_mk S (tc_J c (b + 19) (ss 60 (c.2.1 (b + 19)) i x)))) ∧
  (∀ c i x, f_X7_add (b + 18) i x (tc_mk S c) = some (tc_mk S (tc_J c (b + 19) (ss 60 (c.2.1 (b + 19)) i (sg 60 (c.2.1 (b + 19)) i ||| oneI x))))) ∧
  (∀ c, f_X7_emptyAll (b + 18) (tc_mk S c) = some (tc_mk S (tc_J c (b + 19) (fun j => if j < 60 then 0 else c.2.1 (b + 19) j)))) ∧
  (∀ c, tq_is (tc_mk S c) (b + 20) 7 = some ()) ∧
  (∀ c i, f_X7_get (b + 20) i (tc_mk S c) = some (sg 14 (c.2.1 (b + 21)) i)) ∧
  (∀ c i x, f_X7_set (b + 20) i x (tc_mk S c) = some (tc_mk S (tc_J c (b + 21) (ss 14 (c.2.1 (b + 21)) i x)))) ∧
  (∀ c i x, f_X7_add (b + 20) i x (tc_mk S c) = some (tc_mk S (tc_J c (b + 21) (ss 14 (c.2.1 (b + 21)) i (sg 14 (c.2.1 (b + 21)) i ||| oneI x))))) ∧
  (∀ c, f_X7_emptyAll (b + 20) (tc_mk S c) = some (tc_mk S (tc_J c (b + 21) (fun j => if j < 14 then 0 else c.2.1 (b + 21) j)))) ∧
  (∀ c, tq_is (tc_mk S c) (b + 22) 5 = some ()) ∧
  (∀ c i, f_X5_get (b + 22) i (tc_mk S c) = some (rg 60 (c.1 (b + 23)) i)) ∧
  (∀ c i x, f_X5_set (b + 22) i x (tc_mk S c) = some (tc_mk S (tc_I c (b + 23) (rs 60 (c.1 (b + 23)) i x)))) ∧
  (∀ c x, f_X5_setAll (b + 22) x (tc_mk S c) = some (tc_mk S (tc_I c (b + 23) (fun j => if j < 60 then x else c.1 (b + 23) j)))) ∧
  (∀ c, tq_is (tc_mk S c) (b + 24) 5 = some ()) ∧
  (∀ c i, f_X5_get (b + 24) i (tc_mk S c) = some (rg 60 (c.1 (b + 25)) i)) ∧
  (∀ c i x, f_X5_set (b + 24) i x (tc_mk S c) = some (tc_mk S (tc_I c (b + 25) (rs 60 (c.1 (b + 25)) i x)))) ∧
  (∀ c x, f_X5_setAll (b + 24) x (tc_mk S c) = some (tc_mk S (tc_I c (b + 25) (fun j => if j < 60 then x else c.1 (b + 25) j)))) ∧
  (∀ c, tq_is (tc_mk S c) (b + 26) 5 = some ()) ∧
  (∀ c i, f_X5_get (b + 26) i (tc_mk S c) = some (rg 60 (c.1 (b + 27)) i)) ∧
  (∀ c i x, f_X5_set (b + 26) i x (tc_mk S c) = some (tc_mk S (tc_I c (b + 27) (rs 60 (c.1 (b + 27)) i x)))) ∧
  (∀ c x, f_X5_setAll (b + 26) x (tc_mk S c) = some (tc_mk S (tc_I c (b + 27) (fun j => if j < 60 then x else c.1 (b + 27) j)))) ∧
  (∀ c, tq_is (tc_mk S c) (b + 28) 5 = some ()) ∧
  (∀ c i, f_X5_get (b + 28) i (tc_mk S c) = some (rg 60 (c.1 (b + 29)) i)) ∧
  (∀ c i x, f_X5_set (b + 28) i x (tc_mk S c) = some (tc_mk S (tc_I c (b + 29) (rs 60 (c.1 (b + 29)) i x)))) ∧
  (∀ c x, f_X5_setAll (b + 28) x (tc_mk S c) = some (tc_mk S (tc_I c (b + 29) (fun j => if j < 60 then x else c.1 (b + 29) j)))) ∧
  (∀ c, tq_is (tc_mk S c) (b + 30) 5 = some ()) ∧
  (∀ c i, f_X5_get (b + 30) i (tc_mk S c) = some (rg 60 (c.1 (b + 31)) i)) ∧
  (∀ c i x, f_X5_set (b + 30) i x (tc_mk S c) = some (tc_mk S (tc_I c (b + 31) (rs 60 (c.1 (b + 31)) i x)))) ∧
  (∀ c x, f_X5_setAll (b + 30) x (tc_mk S c) = some (tc_mk S (tc_I c (b + 31) (fun j => if j < 60 then x else c.1 (b + 31) j)))) ∧
  (∀ c, tq_is (tc_mk S c) (b + 32) 5 = some ()) ∧
  (∀ c i, f_X5_get (b + 32) i (tc_mk S c) = some (rg 60 (c.1 (b + 33)) i)) ∧
  (∀ c i x, f_X5_set (b + 32) i x (tc_mk S c) = some (tc_mk S (tc_I c (b + 33) (rs 60 (c.1 (b + 33)) i x)))) ∧
  (∀ c x, f_X5_setAll (b + 32) x (tc_mk S c) = some (tc_mk S (tc_I c (b + 33) (fun j => if j < 60 then x else c.1 (b + 33) j)))) ∧
  (∀ c, tq_is (tc_mk S c) (b + 34) 5 = some ()) ∧
  (∀ c i, f_X5_get (b + 34) i (tc_mk S c) = some (rg 60 (c.1 (b + 35)) i)) ∧
  (∀ c i x, f_X5_set (b + 34) i x (tc_mk S c) = some (tc_mk S (tc_I c (b + 35) (rs 60 (c.1 (b + 35)) i x)))) ∧
  (∀ c x, f_X5_setAll (b + 34) x (tc_mk S c) = some (tc_mk S (tc_I c (b + 35) (fun j => if j < 60 then x else c.1 (b + 35) j)))) ∧
  (∀ c, tq_is (tc_mk S c) (b + 36) 5 = some ()) ∧
  (∀ c i, f_X5_get (b + 36) i (tc_mk S c) = some (rg 60 (c.1 (b + 37)) i)) ∧
  (∀ c i x, f_X5_set (b + 36) i x (tc_mk S c) = some (tc_mk S (tc_I c (b + 37) (rs 60 (c.1 (b + 37)) i x)))) ∧
  (∀ c x, f_X5_setAll (b + 36) x (tc_mk S c) = some (tc_mk S (tc_I c (b + 37) (fun j => if j < 60 then x else c.1 (b + 37) j)))) ∧
  (∀ c, tq_is (tc_mk S c) (b + 38) 5 = some ()) ∧
  (∀ c i, f_X5_get (b + 38) i (tc_mk S c) = some (rg 60 (c.1 (b + 39)) i)) ∧
  (∀ c i x, f_X5_set (b + 38) i x (tc_mk S c) = some (tc_mk S (tc_I c (b + 39) (rs 60 (c.1 (b + 39)) i x)))) ∧
  (∀ c x, f_X5_setAll (b + 38) x (tc_mk S c) = some (tc_mk S (tc_I c (b + 39) (fun j => if j < 60 then x else c.1 (b + 39) j)))) :=
  ⟨fun _ => tc_is h.1,
  fun _ => tc_gr h.1 rfl,
  fun _ => tc_gr h.1 rfl,
  fun _ => tc_gr h.1 rfl,
  fun _ => tc_gr h.1 rfl,
  fun _ => tc_gr h.1 rfl,
  fun _ => tc_gr h.1 rfl,
  fun _ => tc_gr h.1 rfl,
  fun _ => tc_gr h.1 rfl,
  fun _ => tc_gr h.1 rfl,
  fun _ => tc_gr h.1 rfl,
  fun _ => tc_gi h.1 rfl,
  fun _ _ => tc_pfI h.1 rfl,
  fun _ => tc_is h.2.1,
  fun _ => tc_gr h.2.1 rfl,
  fun _ => tc_gr h.2.1 rfl,
  fun _ => tc_gr h.2.1 rfl,
  fun _ => tc_gr h.2.1 rfl,
  fun _ => tc_gr h.2.1 rfl,
  fun _ => tc_gr h.2.1 rfl,
  fun _ => tc_gr h.2.1 rfl,
  fun _ => tc_gr h.2.1 rfl,
  fun _ => tc_gr h.2.1 rfl,
  fun _ => tc_gr h.2.1 rfl,
  fun _ => tc_gl h.2.1 rfl,
  fun _ _ => tc_pfL h.2.1 rfl,
  fun _ => tc_gl h.2.1 rfl,
  fun _ _ => tc_pfL h.2.1 rfl,
  fun _ => tc_gi h.2.1 rfl,
  fun _ _ => tc_pfI h.2.1 rfl,
  (tc_Row.f h.2.2.1).1,
  (tc_Row.f h.2.2.1).2.1,
  (tc_Row.f h.2.2.1).2.2.1,
  (tc_Row.f h.2.2.1).2.2.2,
  (tc_Row.f h.2.2.2.1).1,
  (tc_Row.f h.2.2.2.1).2.1,
  (tc_Row.f h.2.2.2.1).2.2.1,
  (tc_Row.f h.2.2.2.1).2.2.2,
  (tc_Row.f h.2.2.2.2.1).1,
  (tc_Row.f h.2.2.2.2.1).2.1,
  (tc_Row.f h.2.2.2.2.1).2.2.1,
  (tc_Row.f h.2.2.2.2.1).2.2.2,
  (tc_Row.f h.2.2.2.2.2.1).1,
  (tc_Row.f h.2.2.2.2.2.1).2.1,
  (tc_Row.f h.2.2.2.2.2.1).2.2.1,
  (tc_Row.f h.2.2.2.2.2.1).2.2.2,
  (tc_Row.f h.2.2.2.2.2.2.1).1,
  (tc_Row.f h.2.2.2.2.2.2.1).2.1,
  (tc_Row.f h.2.2.2.2.2.2.1).2.2.1,
  (tc_Row.f h.2.2.2.2.2.2.1).2.2.2,
  (tc_Set.f h.2.2.2.2.2.2.2.1).1,
  (tc_Set.f h.2.2.2.2.2.2.2.1).2.1,
  (tc_Set.f h.2.2.2.2.2.2.2.1).2.2.1,
  (tc_Set.f h.2.2.2.2.2.2.2.1).2.2.2.1,
  (tc_Set.f h.2.2.2.2.2.2.2.1).2.2.2.2,
  (tc_Set.f h.2.2.2.2.2.2.2.2.1).1,
  (tc_Set.f h.2.2.2.2.2.2.2.2.1).2.1,
  (tc_Set.f h.2.2.2.2.2.2.2.2.1).2.2.1,
  (tc_Set.f h.2.2.2.2.2.2.2.2.1).2.2.2.1,
  (tc_Set.f h.2.2.2.2.2.2.2.2.1).2.2.2.2,
  (tc_Set.f h.2.2.2.2.2.2.2.2.2.1).1,
  (tc_Set.f h.2.2.2.2.2.2.2.2.2.1).2.1,
  (tc_Set.f h.2.2.2.2.2.2.2.2.2.1).2.2.1,
  (tc_Set.f h.2.2.2.2.2.2.2.2.2.1).2.2.2.1,
  (tc_Set.f h.2.2.2.2.2.2.2.2.2.1).2.2.2.2,
  (tc_Set.f h.2.2.2.2.2.2.2.2.2.2.1).1,
  (tc_Set.f h.2.2.2.2.2.2.2.2.2.2.1).2.1,
  (tc_Set.f h.2.2.2.2.2.2.2.2.2.2.1).2.2.1,
  (tc_Set.f h.2.2.2.2.2.2.2.2.2.2.1).2.2.2.1,
  (tc_Set.f h.2.2.2.2.2.2.2.2.2.2.1).2.2.2.2,
  (tc_Set.f h.2.2.2.2.2.2.2.2.2.2.2.1).1,
  (tc_Set.f h.2.2.2.2.2.2.2.2.2.2.2.1).2.1,
  (tc_Set.f h.2.2.2.2.2.2.2.2.2.2.2.1).2.2.1,
  (tc_Set.f h.2.2.2.2.2.2.2.2.2.2.2.1).2.2.2.1,
  (tc_Set.f h.2.2.2.2.2.2.2.2.2.2.2.1).2.2.2.2,
  (tc_Row.f h.2.2.2.2.2.2.2.2.2.2.2.2.1).1,
  (tc_Row.f h.2.2.2.2.2.2.2.2.2.2.2.2.1).2.1,
  (tc_Row.f h.2.2.2.2.2.2.2.2.2.2.2.2.1).2.2.1,
  (tc_Row.f h.2.2.2.2.2.2.2.2.2.2.2.2.1).2.2.2,
  (tc_Row.f h.2.2.2.2.2.2.2.2.2.2.2.2.2.1).1,
  (tc_Row.f h.2.2.2.2.2.2.2.2.2.2.2.2.2.1).2.1,
  (tc_Row.f h.2.2.2.2.2.2.2.2.2.2.2.2.2.1).2.2.1,
  (tc_Row.f h.2.2.2.2.2.2.2.2.2.2.2.2.2.1).2.2.2,
  (tc_Row.f h.2.2.2.2.2.2.2.2.2.2.2.2.2.2.1).1,
  (tc_Row.f h.2.2.2.2.2.2.2.2.2.2.2.2.2.2.1).2.1,
  (tc_Row.f h.2.2.2.2.2.2.2.2.2.2.2.2.2.2.1).2.2.1,
  (tc_Row.f h.2.2.2.2.2.2.2.2.2.2.2.2.2.2.1).2.2.2,
  (tc_Row.f h.2.2.2.2.2.2.2.2.2.2.2.2.2.2.2.1).1,
  (tc_Row.f h.2.2.2.2.2.2.2.2.2.2.2.2.2.2.2.1).2.1,
  (tc_Row.f h.2.2.2.2.2.2.2.2.2.2.2.2.2.2.2.1).2.2.1,
  (tc_Row.f h.2.2.2.2.2.2.2.2.2.2.2.2.2.2.2.1).2.2.2,
  (tc_Row.f h.2.2.2.2.2.2.2.2.2.2.2.2.2.2.2.2.1).1,
  (tc_Row.f h.2.2.2.2.2.2.2.2.2.2.2.2.2.2.2.2.1).2.1,
  (tc_Row.f h.2.2.2.2.2.2.2.2.2.2.2.2.2.2.2.2.1).2.2.1,
  (tc_Row.f h.2.2.2.2.2.2.2.2.2.2.2.2.2.2.2.2.1).2.2.2,
  (tc_Row.f h.2.2.2.2.2.2.2.2.2.2.2.2.2.2.2.2.2.1).1,
  (tc_Row.f h.2.2.2.2.2.2.2.2.2.2.2.2.2.2.2.2.2.1).2.1,
  (tc_Row.f h.2.2.2.2.2.2.2.2.2.2.2.2.2.2.2.2.2.1).2.2.1,
  (tc_Row.f h.2.2.2.2.2.2.2.2.2.2.2.2.2.2.2.2.2.1).2.2.2,
  (tc_Row.f h.2.2.2.2.2.2.2.2.2.2.2.2.2.2.2.2.2.2.1).1,
  (tc_Row.f h.2.2.2.2.2.2.2.2.2.2.2.2.2.2.2.2.2.2.1).2.1,
  (tc_Row.f h.2.2.2.2.2.2.2.2.2.2.2.2.2.2.2.2.2.2.1).2.2.1,
  (tc_Row.f h.2.2.2.2.2.2.2.2.2.2.2.2.2.2.2.2.2.2.1).2.2.2,
  (tc_Row.f h.2.2.2.2.2.2.2.2.2.2.2.2.2.2.2.2.2.2.2.1).1,
  (tc_Row.f h.2.2.2.2.2.2.2.2.2.2.2.2.2.2.2.2.2.2.2.1).2.1,
  (tc_Row.f h.2.2.2.2.2.2.2.2.2.2.2.2.2.2.2.2.2.2.2.1).2.2.1,
  (tc_Row.f h.2.2.2.2.2.2.2.2.2.2.2.2.2.2.2.2.2.2.2.1).2.2.2,
  (tc_Row.f h.2.2.2.2.2.2.2.2.2.2.2.2.2.2.2.2.2.2.2.2).1,
  (tc_Row.f h.2.2.2.2.2.2.2.2.2.2.2.2.2.2.2.2.2.2.2.2).2.1,
  (tc_Row.f h.2.2.2.2.2.2.2.2.2.2.2.2.2.2.2.2.2.2.2.2).2.2.1,
  (tc_Row.f h.2.2.2.2.2.2.2.2.2.2.2.2.2.2.2.2.2.2.2.2).2.2.2⟩
def tc_Upd (S : tq_H) (b : Nat) : Prop :=
  S.2 (b) = .inl (9, [.ref (b + 1), .ref (b + 3), .ref (b + 5), .ref (b + 7), .ref (b + 9), .ref (b + 11), .ref (b + 13), .ref (b + 15), .long 0, .long 0, .long 0, .int 0]) ∧
  tc_Row S (b + 1) (b + 2) 20 ∧
  tc_Row S (b + 3) (b + 4) 20 ∧
  tc_Row S (b + 5) (b + 6) 20 ∧
  tc_Row S (b + 7) (b + 8) 20 ∧
  tc_Row S (b + 9) (b + 10) 20 ∧
  tc_Row S (b + 11) (b + 12) 20 ∧
  tc_Row S (b + 13) (b + 14) 20 ∧
  tc_Row S (b + 15) (b + 16) 20
theorem tc_Upd.f {S : tq_H} {b : Nat} (h : tc_Upd S b) :
  (∀ c, tq_is (tc_mk S c) (b) 9 = some ()) ∧
  (∀ c, tq_gr (tc_mk S c) (b) 9 0 = some (b + 1)) ∧
  (∀ c, tq_gr (tc_mk S c) (b) 9 1 = some (b + 3)) ∧
  (∀ c, tq_gr (tc_mk S c) (b) 9 2 = some (b + 5)) ∧
  (∀ c, tq_gr (tc_mk S c) (b) 9 3 = some (b + 7)) ∧
  (∀ c, tq_gr (tc_mk S c) (b) 9 4 = some (b + 9)) ∧
  (∀ c, tq_gr (tc_mk S c) (b) 9 5 = some (b + 11)) ∧
  (∀ c, tq_gr (tc_mk S c) (b) 9 6 = some (b + 13)) ∧
  (∀ c, tq_gr (tc_mk S c) (b) 9 7 = some (b + 15)) ∧
  (∀ c, tq_gl (tc_mk S c) (b) 9 8 = some (c.2.2.2.1 (b) 8)) ∧
  (∀ c x, tq_pf (tc_mk S c) (b) 9 8 (.long x) = some (tc_mk S (tc_G c (b) 8 x))) ∧
  (∀ c, tq_gl (tc_mk S c) (b) 9 9 = some (c.2.2.2.1 (b) 9)) ∧
  (∀ c x, tq_pf (tc_mk S c) (b) 9 9 (.long x) = some (tc_mk S (tc_G c (b) 9 x))) ∧
  (∀ c, tq_gl (tc_mk S c) (b) 9 10 = some (c.2.2.2.1 (b) 10)) ∧
  (∀ c x, tq_pf (tc_mk S c) (b) 9 10 (.long x) = some (tc_mk S (tc_G c (b) 10 x))) ∧
  (∀ c, tq_gi (tc_mk S c) (b) 9 11 = some (c.2.2.1 (b) 11)) ∧
  (∀ c x, tq_pf (tc_mk S c) (b) 9 11 (.int x) = some (tc_mk S (tc_F c (b) 11 x))) ∧
  (∀ c, tq_is (tc_mk S c) (b + 1) 5 = some ()) ∧
  (∀ c i, f_X5_get (b + 1) i (tc_mk S c) = some (rg 20 (c.1 (b + 2)) i)) ∧
  (∀ c i x, f_X5_set (b + 1) i x (tc_mk S c) = some (tc_mk S (tc_I c (b + 2) (rs 20 (c.1 (b + 2)) i x)))) ∧
  (∀ c x, f_X5_setAll (b + 1) x (tc_mk S c) = some (tc_mk S (tc_I c (b + 2) (fun j => if j < 20 then x else c.1 (b + 2) j)))) ∧
  (∀ c, tq_is (tc_mk S c) (b + 3) 5 = some ()) ∧
  (∀ c i, f_X5_get (b + 3) i (tc_mk S c) = some (rg 20 (c.1 (b + 4)) i)) ∧
  (∀ c i x, f_X5_set (b + 3) i x (tc_mk S c) = some (tc_mk S (tc_I c (b + 4) (rs 20 (c.1 (b + 4)) i x)))) ∧
  (∀ c x, f_X5_setAll (b + 3) x (tc_mk S c) = some (tc_mk S (tc_I c (b + 4) (fun j => if j < 20 then x else c.1 (b + 4) j)))) ∧
  (∀ c, tq_is (tc_mk S c) (b + 5) 5 = some ()) ∧
  (∀ c i, f_X5_get (b + 5) i (tc_mk S c) = some (rg 20 (c.1 (b + 6)) i)) ∧
  (∀ c i x, f_X5_set (b + 5) i x (tc_mk S c) = some (tc_mk S (tc_I c (b + 6) (rs 20 (c.1 (b + 6)) i x)))) ∧
  (∀ c x, f_X5_setAll (b + 5) x (tc_mk S c) = some (tc_mk S (tc_I c (b + 6) (fun j => if j < 20 then x else c.1 (b + 6) j)))) ∧
  (∀ c, tq_is (tc_mk S c) (b + 7) 5 = some ()) ∧
  (∀ c i, f_X5_get (b + 7) i (tc_mk S c) = some (rg 20 (c.1 (b + 8)) i)) ∧
  (∀ c i x, f_X5_set (b + 7) i x (tc_mk S c) = some (tc_mk S (tc_I c (b + 8) (rs 20 (c.1 (b + 8)) i x)))) ∧
  (∀ c x, f_X5_setAll (b + 7) x (tc_mk S c) = some (tc_mk S (tc_I c (b + 8) (fun j => if j < 20 then x else c.1 (b + 8) j)))) ∧
  (∀ c, tq_is (tc_mk S c) (b + 9) 5 = some ()) ∧
  (∀ c i, f_X5_get (b + 9) i (tc_mk S c) = some (rg 20 (c.1 (b + 10)) i)) ∧
  (∀ c i x, f_X5_set (b + 9) i x (tc_mk S c) = some (tc_mk S (tc_I c (b + 10) (rs 20 (c.1 (b + 10)) i x)))) ∧
  (∀ c x, f_X5_setAll (b + 9) x (tc_mk S c) = some (tc_mk S (tc_I c (b + 10) (fun j => if j < 20 then x else c.1 (b + 10) j)))) ∧
  (∀ c, tq_is (tc_mk S c) (b + 11) 5 = some ()) ∧
  (∀ c i, f_X5_get (b + 11) i (tc_mk S c) = some (rg 20 (c.1 (b + 12)) i)) ∧
  (∀ c i x, f_X5_set (b + 11) i x (tc_mk S c) = some (tc_mk S (tc_I c (b + 12) (rs 20 (c.1 (b + 12)) i x)))) ∧
  (∀ c x, f_X5_setAll (b + 11) x (tc_mk S c) = some (tc_mk S (tc_I c (b + 12) (fun j => if j < 20 then x else c.1 (b + 12) j)))) ∧
  (∀ c, tq_is (tc_mk S c) (b + 13) 5 = some ()) ∧
  (∀ c i, f_X5_get (b + 13) i (tc_mk S c) = some (rg 20 (c.1 (b + 14)) i)) ∧
  (∀ c i x, f_X5_set (b + 13) i x (tc_mk S c) = some (tc_mk S (tc_I c (b + 14) (rs 20 (c.1 (b + 14)) i x)))) ∧
  (∀ c x, f_X5_setAll (b + 13) x (tc_mk S c) = some (tc_mk S (tc_I c (b + 14) (fun j => if j < 20 then x else c.1 (b + 14) j)))) ∧
  (∀ c, tq_is (tc_mk S c) (b + 15) 5 = some ()) ∧
  (∀ c i, f_X5_get (b + 15) i (tc_mk S c) = some (rg 20 (c.1 (b + 16)) i)) ∧
  (∀ c i x, f_X5_set (b + 15) i x (tc_mk S c) = some (tc_mk S (tc_I c (b + 16) (rs 20 (c.1 (b + 16)) i x)))) ∧
  (∀ c x, f_X5_setAll (b + 15) x (tc_mk S c) = some (tc_mk S (tc_I c (b + 16) (fun j => if j < 20 then x else c.1 (b + 16) j)))) :=
  ⟨fun _ => tc_is h.1,
  fun _ => tc_gr h.1 rfl,
  fun _ => tc_gr h.1 rfl,
  fun _ => tc_gr h.1 rfl,
  fun _ => tc_gr h.1 rfl,
  fun _ => tc_gr h.1 rfl,
  fun _ => tc_gr h.1 rfl,
  fun _ => tc_gr h.1 rfl,
  fun _ => tc_gr h.1 rfl,
  fun _ => tc_gl h.1 rfl,
  fun _ _ => tc_pfL h.1 rfl,
  fun _ => tc_gl h.1 rfl,
  fun _ _ => tc_pfL h.1 rfl,
  fun _ => tc_gl h.1 rfl,
  fun _ _ => tc_pfL h.1 rfl,
  fun _ => tc_gi h.1 rfl,
  fun _ _ => tc_pfI h.1 rfl,
  (tc_Row.f h.2.1).1,
  (tc_Row.f h.2.1).2.1,
  (tc_Row.f h.2.1).2.2.1,
  (tc_Row.f h.2.1).2.2.2,
  (tc_Row.f h.2.2.1).1,
  (tc_Row.f h.2.2.1).2.1,
  (tc_Row.f h.2.2.1).2.2.1,
  (tc_Row.f h.2.2.1).2.2.2,
  (tc_Row.f h.2.2.2.1).1,
  (tc_Row.f h.2.2.2.1).2.1,
  (tc_Row.f h.2.2.2.1).2.2.1,
  (tc_Row.f h.2.2.2.1).2.2.2,
  (tc_Row.f h.2.2.2.2.1).1,
  (tc_Row.f h.2.2.2.2.1).2.1,
  (tc_Row.f h.2.2.2.2.1).2.2.1,
  (tc_Row.f h.2.2.2.2.1).2.2.2,
  (tc_Row.f h.2.2.2.2.2.1).1,
  (tc_Row.f h.2.2.2.2.2.1).2.1,
  (tc_Row.f h.2.2.2.2.2.1).2.2.1,
  (tc_Row.f h.2.2.2.2.2.1).2.2.2,
  (tc_Row.f h.2.2.2.2.2.2.1).1,
  (tc_Row.f h.2.2.2.2.2.2.1).2.1,
  (tc_Row.f h.2.2.2.2.2.2.1).2.2.1,
  (tc_Row.f h.2.2.2.2.2.2.1).2.2.2,
  (tc_Row.f h.2.2.2.2.2.2.2.1).1,
  (tc_Row.f h.2.2.2.2.2.2.2.1).2.1,
  (tc_Row.f h.2.2.2.2.2.2.2.1).2.2.1,
  (tc_Row.f h.2.2.2.2.2.2.2.1).2.2.2,
  (tc_Row.f h.2.2.2.2.2.2.2.2).1,
  (tc_Row.f h.2.2.2.2.2.2.2.2).2.1,
  (tc_Row.f h.2.2.2.2.2.2.2.2).2.2.1,
  (tc_Row.f h.2.2.2.2.2.2.2.2).2.2.2⟩
def tc_Pth (S : tq_H) (b : Nat) : Prop :=
  S.2 (b) = .inl (4, [.ref (b + 1), .ref (b + 3), .ref (b + 5), .ref (b + 7), .ref (b + 9), .ref (b + 11), .ref (b + 13), .ref (b + 15), .ref (b + 17), .int 0]) ∧
  tc_Row S (b + 1) (b + 2) 20 ∧
  tc_Row S (b + 3) (b + 4) 100 ∧
  tc_Row S (b + 5) (b + 6) 100 ∧
  tc_Row S (b + 7) (b + 8) 100 ∧
  tc_Row S (b + 9) (b + 10) 100 ∧
  tc_Row S (b + 11) (b + 12) 200 ∧
  tc_Row S (b + 13) (b + 14) 200 ∧
  tc_Row S (b + 15) (b + 16) 200 ∧
  tc_Row S (b + 17) (b + 18) 200
theorem tc_Pth.f {S : tq_H} {b : Nat} (h : tc_Pth S b) :
  (∀ c, tq_is (tc_mk S c) (b) 4 = some ()) ∧
  (∀ c, tq_gr (tc_mk S c) (b) 4 0 = some (b + 1)) ∧
  (∀ c, tq_gr (tc_mk S c) (b) 4 1 = some (b + 3)) ∧
  (∀ c, tq_gr (tc_mk S c) (b) 4 2 = some (b + 5)) ∧
  (∀ c, tq_gr (tc_mk S c) (b) 4 3 = some (b + 7)) ∧
  (∀ c, tq_gr (tc_mk S c) (b) 4 4 = some (b + 9)) ∧
  (∀ c, tq_gr (tc_mk S c) (b) 4 5 = some (b + 11)) ∧
  (∀ c, tq_gr (tc_mk S c) (b) 4 6 = some (b + 13)) ∧
  (∀ c, tq_gr (tc_mk S c) (b) 4 7 = some (b + 15)) ∧
  (∀ c, tq_gr (tc_mk S c) (b) 4 8 = some (b + 17)) ∧
  (∀ c, tq_gi (tc_mk S c) (b) 4 9 = some (c.2.2.1 (b) 9)) ∧
  (∀ c x, tq_pf (tc_mk S c) (b) 4 9 (.int x) = some (tc_mk S (tc_F c (b) 9 x))) ∧
  (∀ c, tq_is (tc_mk S c) (b + 1) 5 = some ()) ∧
  (∀ c i, f_X5_get (b + 1) i (tc_mk S c) = some (rg 20 (c.1 (b + 2)) i)) ∧
  (∀ c i x, f_X5_set (b + 1) i x (tc_mk S c) = some (tc_mk S (tc_I c (b + 2) (rs 20 (c.1 (b + 2)) i x)))) ∧
  (∀ c x, f_X5_setAll (b + 1) x (tc_mk S c) = some (tc_mk S (tc_I c (b + 2) (fun j => if j < 20 then x else c.1 (b + 2) j)))) ∧
  (∀ c, tq_is (tc_mk S c) (b + 3) 5 = some ()) ∧
  (∀ c i, f_X5_get (b + 3) i (tc_mk S c) = some (rg 100 (c.1 (b + 4)) i)) ∧
  (∀ c i x, f_X5_set (b + 3) i x (tc_mk S c) = some (tc_mk S (tc_I c (b + 4) (rs 100 (c.1 (b + 4)) i x)))) ∧
  (∀ c x, f_X5_setAll (b + 3) x (tc_mk S c) = some (tc_mk S (tc_I c (b + 4) (fun j => if j < 100 then x else c.1 (b + 4) j)))) ∧
  (∀ c, tq_is (tc_mk S c) (b + 5) 5 = some ()) ∧
  (∀ c i, f_X5_get (b + 5) i (tc_mk S c) = some (rg 100 (c.1 (b + 6)) i)) ∧
  (∀ c i x, f_X5_set (b + 5) i x (tc_mk S c) = some (tc_mk S (tc_I c (b + 6) (rs 100 (c.1 (b + 6)) i x)))) ∧
  (∀ c x, f_X5_setAll (b + 5) x (tc_mk S c) = some (tc_mk S (tc_I c (b + 6) (fun j => if j < 100 then x else c.1 (b + 6) j)))) ∧
  (∀ c, tq_is (tc_mk S c) (b + 7) 5 = some ()) ∧
  (∀ c i, f_X5_get (b + 7) i (tc_mk S c) = some (rg 100 (c.1 (b + 8)) i)) ∧
  (∀ c i x, f_X5_set (b + 7) i x (tc_mk S c) = some (tc_mk S (tc_I c (b + 8) (rs 100 (c.1 (b + 8)) i x)))) ∧
  (∀ c x, f_X5_setAll (b + 7) x (tc_mk S c) = some (tc_mk S (tc_I c (b + 8) (fun j => if j < 100 then x else c.1 (b + 8) j)))) ∧
  (∀ c, tq_is (tc_mk S c) (b + 9) 5 = some ()) ∧
  (∀ c i, f_X5_get (b + 9) i (tc_mk S c) = some (rg 100 (c.1 (b + 10)) i)) ∧
  (∀ c i x, f_X5_set (b + 9) i x (tc_mk S c) = some (tc_mk S (tc_I c (b + 10) (rs 100 (c.1 (b + 10)) i x)))) ∧
  (∀ c x, f_X5_setAll (b + 9) x (tc_mk S c) = some (tc_mk S (tc_I c (b + 10) (fun j => if j < 100 then x else c.1 (b + 10) j)))) ∧
  (∀ c, tq_is (tc_mk S c) (b + 11) 5 = some ()) ∧
  (∀ c i, f_X5_get (b + 11) i (tc_mk S c) = some (rg 200 (c.1 (b + 12)) i)) ∧
  (∀ c i x, f_X5_set (b + 11) i x (tc_mk S c) = some (tc_mk S (tc_I c (b + 12) (rs 200 (c.1 (b + 12)) i x)))) ∧
  (∀ c x, f_X5_setAll (b + 11) x (tc_mk S c) = some (tc_mk S (tc_I c (b + 12) (fun j => if j < 200 then x else c.1 (b + 12) j)))) ∧
  (∀ c, tq_is (tc_mk S c) (b + 13) 5 = some ()) ∧
  (∀ c i, f_X5_get (b + 13) i (tc_mk S c) = some (rg 200 (c.1 (b + 14)) i)) ∧
  (∀ c i x, f_X5_set (b + 13) i x (tc_mk S c) = some (tc_mk S (tc_I c (b + 14) (rs 200 (c.1 (b + 14)) i x)))) ∧
  (∀ c x, f_X5_setAll (b + 13) x (tc_mk S c) = some (tc_mk S (tc_I c (b + 14) (fun j => if j < 200 then x else c.1 (b + 14) j)))) ∧
  (∀ c, tq_is (tc_mk S c) (b + 15) 5 = some ()) ∧
  (∀ c i, f_X5_get (b + 15) i (tc_mk S c) = some (rg 200 (c.1 (b + 16)) i)) ∧
  (∀ c i x, f_X5_set (b + 15) i x (tc_mk S c) = some (tc_mk S (tc_I c (b + 16) (rs 200 (c.1 (b + 16)) i x)))) ∧
  (∀ c x, f_X5_setAll (b + 15) x (tc_mk S c) = some (tc_mk S (tc_I c (b + 16) (fun j => if j < 200 then x else c.1 (b + 16) j)))) ∧
  (∀ c, tq_is (tc_mk S c) (b + 17) 5 = some ()) ∧
  (∀ c i, f_X5_get (b + 17) i (tc_mk S c) = some (rg 200 (c.1 (b + 18)) i)) ∧
  (∀ c i x, f_X5_set (b + 17) i x (tc_mk S c) = some (tc_mk S (tc_I c (b + 18) (rs 200 (c.1 (b + 18)) i x)))) ∧
  (∀ c x, f_X5_setAll (b + 17) x (tc_mk S c) = some (tc_mk S (tc_I c (b + 18) (fun j => if j < 200 then x else c.1 (b + 18) j)))) :=
  ⟨fun _ => tc_is h.1,
  fun _ => tc_gr h.1 rfl,
  fun _ => tc_gr h.1 rfl,
  fun _ => tc_gr h.1 rfl,
  fun _ => tc_gr h.1 rfl,
  fun _ => tc_gr h.1 rfl,
  fun _ => tc_gr h.1 rfl,
  fun _ => tc_gr h.1 rfl,
  fun _ => tc_gr h.1 rfl,
  fun _ => tc_gr h.1 rfl,
  fun _ => tc_gi h.1 rfl,
  fun _ _ => tc_pfI h.1 rfl,
  (tc_Row.f h.2.1).1,
  (tc_Row.f h.2.1).2.1,
  (tc_Row.f h.2.1).2.2.1,
  (tc_Row.f h.2.1).2.2.2,
  (tc_Row.f h.2.2.1).1,
  (tc_Row.f h.2.2.1).2.1,
  (tc_Row.f h.2.2.1).2.2.1,
  (tc_Row.f h.2.2.1).2.2.2,
  (tc_Row.f h.2.2.2.1).1,
  (tc_Row.f h.2.2.2.1).2.1,
  (tc_Row.f h.2.2.2.1).2.2.1,
  (tc_Row.f h.2.2.2.1).2.2.2,
  (tc_Row.f h.2.2.2.2.1).1,
  (tc_Row.f h.2.2.2.2.1).2.1,
  (tc_Row.f h.2.2.2.2.1).2.2.1,
  (tc_Row.f h.2.2.2.2.1).2.2.2,
  (tc_Row.f h.2.2.2.2.2.1).1,
  (tc_Row.f h.2.2.2.2.2.1).2.1,
  (tc_Row.f h.2.2.2.2.2.1).2.2.1,
  (tc_Row.f h.2.2.2.2.2.1).2.2.2,
  (tc_Row.f h.2.2.2.2.2.2.1).1,
  (tc_Row.f h.2.2.2.2.2.2.1).2.1,
  (tc_Row.f h.2.2.2.2.2.2.1).2.2.1,
  (tc_Row.f h.2.2.2.2.2.2.1).2.2.2,
  (tc_Row.f h.2.2.2.2.2.2.2.1).1,
  (tc_Row.f h.2.2.2.2.2.2.2.1).2.1,
  (tc_Row.f h.2.2.2.2.2.2.2.1).2.2.1,
  (tc_Row.f h.2.2.2.2.2.2.2.1).2.2.2,
  (tc_Row.f h.2.2.2.2.2.2.2.2.1).1,
  (tc_Row.f h.2.2.2.2.2.2.2.2.1).2.1,
  (tc_Row.f h.2.2.2.2.2.2.2.2.1).2.2.1,
  (tc_Row.f h.2.2.2.2.2.2.2.2.1).2.2.2,
  (tc_Row.f h.2.2.2.2.2.2.2.2.2).1,
  (tc_Row.f h.2.2.2.2.2.2.2.2.2).2.1,
  (tc_Row.f h.2.2.2.2.2.2.2.2.2).2.2.1,
  (tc_Row.f h.2.2.2.2.2.2.2.2.2).2.2.2⟩
def tc_Sch (S : tq_H) (b : Nat) : Prop :=
  S.2 (b) = .inl (6, [.ref (b + 1), .ref (b + 3), .ref (b + 5), .ref (b + 7), .ref (b + 9), .ref (b + 11), .ref (b + 13), .ref (b + 15), .int 0, .int 0, .int 0]) ∧
  tc_Row S (b + 1) (b + 2) 6 ∧
  tc_Row S (b + 3) (b + 4) 6 ∧
  tc_Row S (b + 5) (b + 6) 48 ∧
  tc_Row S (b + 7) (b + 8) 144 ∧
  tc_Row S (b + 9) (b + 10) 60 ∧
  tc_Row S (b + 11) (b + 12) 8 ∧
  tc_Row S (b + 13) (b + 14) 8 ∧
  tc_Row S (b + 15) (b + 16) 160
theorem tc_Sch.f {S : tq_H} {b : Nat} (h : tc_Sch S b) :
  (∀ c, tq_is (tc_mk S c) (b) 6 = some ()) ∧
  (∀ c, tq_gr (tc_mk S c) (b) 6 0 = some (b + 1)) ∧
  (∀ c, tq_gr (tc_mk S c) (b) 6 1 = some (b + 3)) ∧
  (∀ c, tq_gr (tc_mk S c) (b) 6 2 = some (b + 5)) ∧
  (∀ c, tq_gr (tc_mk S c) (b) 6 3 = some (b + 7)) ∧
  (∀ c, tq_gr (tc_mk S c) (b) 6 4 = some (b + 9)) ∧
  (∀ c, tq_gr (tc_mk S c) (b) 6 5 = some (b + 11)) ∧
  (∀ c, tq_gr (tc_mk S c) (b) 6 6 = some (b + 13)) ∧
  (∀ c, tq_gr (tc_mk S c) (b) 6 7 = some (b + 15)) ∧
  (∀ c, tq_gi (tc_mk S c) (b) 6 8 = some (c.2.2.1 (b) 8)) ∧
  (∀ c x, tq_pf (tc_mk S c) (b) 6 8 (.int x) = some (tc_mk S (tc_F c (b) 8 x))) ∧
  (∀ c, tq_gi (tc_mk S c) (b) 6 9 = some (c.2.2.1 (b) 9)) ∧
  (∀ c x, tq_pf (tc_mk S c) (b) 6 9 (.int x) = some (tc_mk S (tc_F c (b) 9 x))) ∧
  (∀ c, tq_gi (tc_mk S c) (b) 6 10 = some (c.2.2.1 (b) 10)) ∧
  (∀ c x, tq_pf (tc_mk S c) (b) 6 10 (.int x) = some (tc_mk S (tc_F c (b) 10 x))) ∧
  (∀ c, tq_is (tc_mk S c) (b + 1) 5 = some ()) ∧
  (∀ c i, f_X5_get (b + 1) i (tc_mk S c) = some (rg 6 (c.1 (b + 2)) i)) ∧
  (∀ c i x, f_X5_set (b + 1) i x (tc_mk S c) = some (tc_mk S (tc_I c (b + 2) (rs 6 (c.1 (b + 2)) i x)))) ∧
  (∀ c x, f_X5_setAll (b + 1) x (tc_mk S c) = some (tc_mk S (tc_I c (b + 2) (fun j => if j < 6 then x else c.1 (b + 2) j)))) ∧
  (∀ c, tq_is (tc_mk S c) (b + 3) 5 = some ()) ∧
  (∀ c i, f_X5_get (b + 3) i (tc_mk S c) = some (rg 6 (c.1 (b + 4)) i)) ∧
  (∀ c i x, f_X5_set (b + 3) i x (tc_mk S c) = some (tc_mk S (tc_I c (b + 4) (rs 6 (c.1 (b + 4)) i x)))) ∧
  (∀ c x, f_X5_setAll (b + 3) x (tc_mk S c) = some (tc_mk S (tc_I c (b + 4) (fun j => if j < 6 then x else c.1 (b + 4) j)))) ∧
  (∀ c, tq_is (tc_mk S c) (b + 5) 5 = some ()) ∧
  (∀ c i, f_X5_get (b + 5) i (tc_mk S c) = some (rg 48 (c.1 (b + 6)) i)) ∧
  (∀ c i x, f_X5_set (b + 5) i x (tc_mk S c) = some (tc_mk S (tc_I c (b + 6) (rs 48 (c.1 (b + 6)) i x)))) ∧
  (∀ c x, f_X5_setAll (b + 5) x (tc_mk S c) = some (tc_mk S (tc_I c (b + 6) (fun j => if j < 48 then x else c.1 (b + 6) j)))) ∧
  (∀ c, tq_is (tc_mk S c) (b + 7) 5 = some ()) ∧
  (∀ c i, f_X5_get (b + 7) i (tc_mk S c) = some (rg 144 (c.1 (b + 8)) i)) ∧
  (∀ c i x, f_X5_set (b + 7) i x (tc_mk S c) = some (tc_mk S (tc_I c (b + 8) (rs 144 (c.1 (b + 8)) i x)))) ∧
  (∀ c x, f_X5_setAll (b + 7) x (tc_mk S c) = some (tc_mk S (tc_I c (b + 8) (fun j => if j < 144 then x else c.1 (b + 8) j)))) ∧
  (∀ c, tq_is (tc_mk S c) (b + 9) 5 = some ()) ∧
  (∀ c i, f_X5_get (b + 9) i (tc_mk S c) = some (rg 60 (c.1 (b + 10)) i)) ∧
  (∀ c i x, f_X5_set (b + 9) i x (tc_mk S c) = some (tc_mk S (tc_I c (b + 10) (rs 60 (c.1 (b + 10)) i x)))) ∧
  (∀ c x, f_X5_setAll (b + 9) x (tc_mk S c) = some (tc_mk S (tc_I c (b + 10) (fun j => if j < 60 then x else c.1 (b + 10) j)))) ∧
  (∀ c, tq_is (tc_mk S c) (b + 11) 5 = some ()) ∧
  (∀ c i, f_X5_get (b + 11) i (tc_mk S c) = some (rg 8 (c.1 (b + 12)) i)) ∧
  (∀ c i x, f_X5_set (b + 11) i x (tc_mk S c) = some (tc_mk S (tc_I c (b + 12) (rs 8 (c.1 (b + 12)) i x)))) ∧
  (∀ c x, f_X5_setAll (b + 11) x (tc_mk S c) = some (tc_mk S (tc_I c (b + 12) (fun j => if j < 8 then x else c.1 (b + 12) j)))) ∧
  (∀ c, tq_is (tc_mk S c) (b + 13) 5 = some ()) ∧
  (∀ c i, f_X5_get (b + 13) i (tc_mk S c) = some (rg 8 (c.1 (b + 14)) i)) ∧
  (∀ c i x, f_X5_set (b + 13) i x (tc_mk S c) = some (tc_mk S (tc_I c (b + 14) (rs 8 (c.1 (b + 14)) i x)))) ∧
  (∀ c x, f_X5_setAll (b + 13) x (tc_mk S c) = some (tc_mk S (tc_I c (b + 14) (fun j => if j < 8 then x else c.1 (b + 14) j)))) ∧
  (∀ c, tq_is (tc_mk S c) (b + 15) 5 = some ()) ∧
  (∀ c i, f_X5_get (b + 15) i (tc_mk S c) = some (rg 160 (c.1 (b + 16)) i)) ∧
  (∀ c i x, f_X5_set (b + 15) i x (tc_mk S c) = some (tc_mk S (tc_I c (b + 16) (rs 160 (c.1 (b + 16)) i x)))) ∧
  (∀ c x, f_X5_setAll (b + 15) x (tc_mk S c) = some (tc_mk S (tc_I c (b + 16) (fun j => if j < 160 then x else c.1 (b + 16) j)))) :=
  ⟨fun _ => tc_is h.1,
  fun _ => tc_gr h.1 rfl,
  fun _ => tc_gr h.1 rfl,
  fun _ => tc_gr h.1 rfl,
  fun _ => tc_gr h.1 rfl,
  fun _ => tc_gr h.1 rfl,
  fun _ => tc_gr h.1 rfl,
  fun _ => tc_gr h.1 rfl,
  fun _ => tc_gr h.1 rfl,
  fun _ => tc_gi h.1 rfl,
  fun _ _ => tc_pfI h.1 rfl,
  fun _ => tc_gi h.1 rfl,
  fun _ _ => tc_pfI h.1 rfl,
  fun _ => tc_gi h.1 rfl,
  fun _ _ => tc_pfI h.1 rfl,
  (tc_Row.f h.2.1).1,
  (tc_Row.f h.2.1).2.1,
  (tc_Row.f h.2.1).2.2.1,
  (tc_Row.f h.2.1).2.2.2,
  (tc_Row.f h.2.2.1).1,
  (tc_Row.f h.2.2.1).2.1,
  (tc_Row.f h.2.2.1).2.2.1,
  (tc_Row.f h.2.2.1).2.2.2,
  (tc_Row.f h.2.2.2.1).1,
  (tc_Row.f h.2.2.2.1).2.1,
  (tc_Row.f h.2.2.2.1).2.2.1,
  (tc_Row.f h.2.2.2.1).2.2.2,
  (tc_Row.f h.2.2.2.2.1).1,
  (tc_Row.f h.2.2.2.2.1).2.1,
  (tc_Row.f h.2.2.2.2.1).2.2.1,
  (tc_Row.f h.2.2.2.2.1).2.2.2,
  (tc_Row.f h.2.2.2.2.2.1).1,
  (tc_Row.f h.2.2.2.2.2.1).2.1,
  (tc_Row.f h.2.2.2.2.2.1).2.2.1,
  (tc_Row.f h.2.2.2.2.2.1).2.2.2,
  (tc_Row.f h.2.2.2.2.2.2.1).1,
  (tc_Row.f h.2.2.2.2.2.2.1).2.1,
  (tc_Row.f h.2.2.2.2.2.2.1).2.2.1,
  (tc_Row.f h.2.2.2.2.2.2.1).2.2.2,
  (tc_Row.f h.2.2.2.2.2.2.2.1).1,
  (tc_Row.f h.2.2.2.2.2.2.2.1).2.1,
  (tc_Row.f h.2.2.2.2.2.2.2.1).2.2.1,
  (tc_Row.f h.2.2.2.2.2.2.2.1).2.2.2,
  (tc_Row.f h.2.2.2.2.2.2.2.2).1,
  (tc_Row.f h.2.2.2.2.2.2.2.2).2.1,
  (tc_Row.f h.2.2.2.2.2.2.2.2).2.2.1,
  (tc_Row.f h.2.2.2.2.2.2.2.2).2.2.2⟩
def tc_Edi (S : tq_H) (b : Nat) : Prop :=
  S.2 (b) = .inl (1, [.ref (b + 1), .ref (b + 3), .ref (b + 5), .ref (b + 7), .ref (b + 9), .ref (b + 11), .ref (b + 13)]) ∧
  tc_Row S (b + 1) (b + 2) 60 ∧
  tc_Row S (b + 3) (b + 4) 60 ∧
  tc_Row S (b + 5) (b + 6) 60 ∧
  tc_Row S (b + 7) (b + 8) 60 ∧
  tc_Row S (b + 9) (b + 10) 3721 ∧
  tc_Row S (b + 11) (b + 12) 3721 ∧
  tc_Row S (b + 13) (b + 14) 36
theorem tc_Edi.f {S : tq_H} {b : Nat} (h : tc_Edi S b) :
  (∀ c, tq_is (tc_mk S c) (b) 1 = some ()) ∧
  (∀ c, tq_gr (tc_mk S c) (b) 1 0 = some (b + 1)) ∧
  (∀ c, tq_gr (tc_mk S c) (b) 1 1 = some (b + 3)) ∧
  (∀ c, tq_gr (tc_mk S c) (b) 1 2 = some (b + 5)) ∧
  (∀ c, tq_gr (tc_mk S c) (b) 1 3 = some (b + 7)) ∧
  (∀ c, tq_gr (tc_mk S c) (b) 1 4 = some (b + 9)) ∧
  (∀ c, tq_gr (tc_mk S c) (b) 1 5 = some (b + 11)) ∧
  (∀ c, tq_gr (tc_mk S c) (b) 1 6 = some (b + 13)) ∧
  (∀ c, tq_is (tc_mk S c) (b + 1) 5 = some ()) ∧
  (∀ c i, f_X5_get (b + 1) i (tc_mk S c) = some (rg 60 (c.1 (b + 2)) i)) ∧
  (∀ c i x, f_X5_set (b + 1) i x (tc_mk S c) = some (tc_mk S (tc_I c (b + 2) (rs 60 (c.1 (b + 2)) i x)))) ∧
  (∀ c x, f_X5_setAll (b + 1) x (tc_mk S c) = some (tc_mk S (tc_I c (b + 2) (fun j => if j < 60 then x else c.1 (b + 2) j)))) ∧
  (∀ c, tq_is (tc_mk S c) (b + 3) 5 = some ()) ∧
  (∀ c i, f_X5_get (b + 3) i (tc_mk S c) = some (rg 60 (c.1 (b + 4)) i)) ∧
  (∀ c i x, f_X5_set (b + 3) i x (tc_mk S c) = some (tc_mk S (tc_I c (b + 4) (rs 60 (c.1 (b + 4)) i x)))) ∧
  (∀ c x, f_X5_setAll (b + 3) x (tc_mk S c) = some (tc_mk S (tc_I c (b + 4) (fun j => if j < 60 then x else c.1 (b + 4) j)))) ∧
  (∀ c, tq_is (tc_mk S c) (b + 5) 5 = some ()) ∧
  (∀ c i, f_X5_get (b + 5) i (tc_mk S c) = some (rg 60 (c.1 (b + 6)) i)) ∧
  (∀ c i x, f_X5_set (b + 5) i x (tc_mk S c) = some (tc_mk S (tc_I c (b + 6) (rs 60 (c.1 (b + 6)) i x)))) ∧
  (∀ c x, f_X5_setAll (b + 5) x (tc_mk S c) = some (tc_mk S (tc_I c (b + 6) (fun j => if j < 60 then x else c.1 (b + 6) j)))) ∧
  (∀ c, tq_is (tc_mk S c) (b + 7) 5 = some ()) ∧
  (∀ c i, f_X5_get (b + 7) i (tc_mk S c) = some (rg 60 (c.1 (b + 8)) i)) ∧
  (∀ c i x, f_X5_set (b + 7) i x (tc_mk S c) = some (tc_mk S (tc_I c (b + 8) (rs 60 (c.1 (b + 8)) i x)))) ∧
  (∀ c x, f_X5_setAll (b + 7) x (tc_mk S c) = some (tc_mk S (tc_I c (b + 8) (fun j => if j < 60 then x else c.1 (b + 8) j)))) ∧
  (∀ c, tq_is (tc_mk S c) (b + 9) 5 = some ()) ∧
  (∀ c i, f_X5_get (b + 9) i (tc_mk S c) = some (rg 3721 (c.1 (b + 10)) i)) ∧
  (∀ c i x, f_X5_set (b + 9) i x (tc_mk S c) = some (tc_mk S (tc_I c (b + 10) (rs 3721 (c.1 (b + 10)) i x)))) ∧
  (∀ c x, f_X5_setAll (b + 9) x (tc_mk S c) = some (tc_mk S (tc_I c (b + 10) (fun j => if j < 3721 then x else c.1 (b + 10) j)))) ∧
  (∀ c, tq_is (tc_mk S c) (b + 11) 5 = some ()) ∧
  (∀ c i, f_X5_get (b + 11) i (tc_mk S c) = some (rg 3721 (c.1 (b + 12)) i)) ∧
  (∀ c i x, f_X5_set (b + 11) i x (tc_mk S c) = some (tc_mk S (tc_I c (b + 12) (rs 3721 (c.1 (b + 12)) i x)))) ∧
  (∀ c x, f_X5_setAll (b + 11) x (tc_mk S c) = some (tc_mk S (tc_I c (b + 12) (fun j => if j < 3721 then x else c.1 (b + 12) j)))) ∧
  (∀ c, tq_is (tc_mk S c) (b + 13) 5 = some ()) ∧
  (∀ c i, f_X5_get (b + 13) i (tc_mk S c) = some (rg 36 (c.1 (b + 14)) i)) ∧
  (∀ c i x, f_X5_set (b + 13) i x (tc_mk S c) = some (tc_mk S (tc_I c (b + 14) (rs 36 (c.1 (b + 14)) i x)))) ∧
  (∀ c x, f_X5_setAll (b + 13) x (tc_mk S c) = some (tc_mk S (tc_I c (b + 14) (fun j => if j < 36 then x else c.1 (b + 14) j)))) :=
  ⟨fun _ => tc_is h.1,
  fun _ => tc_gr h.1 rfl,
  fun _ => tc_gr h.1 rfl,
  fun _ => tc_gr h.1 rfl,
  fun _ => tc_gr h.1 rfl,
  fun _ => tc_gr h.1 rfl,
  fun _ => tc_gr h.1 rfl,
  fun _ => tc_gr h.1 rfl,
  (tc_Row.f h.2.1).1,
  (tc_Row.f h.2.1).2.1,
  (tc_Row.f h.2.1).2.2.1,
  (tc_Row.f h.2.1).2.2.2,
  (tc_Row.f h.2.2.1).1,
  (tc_Row.f h.2.2.1).2.1,
  (tc_Row.f h.2.2.1).2.2.1,
  (tc_Row.f h.2.2.1).2.2.2,
  (tc_Row.f h.2.2.2.1).1,
  (tc_Row.f h.2.2.2.1).2.1,
  (tc_Row.f h.2.2.2.1).2.2.1,
  (tc_Row.f h.2.2.2.1).2.2.2,
  (tc_Row.f h.2.2.2.2.1).1,
  (tc_Row.f h.2.2.2.2.1).2.1,
  (tc_Row.f h.2.2.2.2.1).2.2.1,
  (tc_Row.f h.2.2.2.2.1).2.2.2,
  (tc_Row.f h.2.2.2.2.2.1).1,
  (tc_Row.f h.2.2.2.2.2.1).2.1,
  (tc_Row.f h.2.2.2.2.2.1).2.2.1,
  (tc_Row.f h.2.2.2.2.2.1).2.2.2,
  (tc_Row.f h.2.2.2.2.2.2.1).1,
  (tc_Row.f h.2.2.2.2.2.2.1).2.1,
  (tc_Row.f h.2.2.2.2.2.2.1).2.2.1,
  (tc_Row.f h.2.2.2.2.2.2.1).2.2.2,
  (tc_Row.f h.2.2.2.2.2.2.2).1,
  (tc_Row.f h.2.2.2.2.2.2.2).2.1,
  (tc_Row.f h.2.2.2.2.2.2.2).2.2.1,
  (tc_Row.f h.2.2.2.2.2.2.2).2.2.2⟩
def tc_Fnd (S : tq_H) (b : Nat) : Prop :=
  S.2 (b) = .inl (2, [.ref (1), .ref (2), .ref (98), .ref (b + 1), .ref (b + 3), .ref (b + 5), .long 0, .int 0]) ∧
  tc_Set S (b + 1) (b + 2) 1200 ∧
  tc_Set S (b + 3) (b + 4) 60 ∧
  tc_Row S (b + 5) (b + 6) 60
theorem tc_Fnd.f {S : tq_H} {b : Nat} (h : tc_Fnd S b) :
  (∀ c, tq_is (tc_mk S c) (b) 2 = some ()) ∧
  (∀ c, tq_gr (tc_mk S c) (b) 2 0 = some (1)) ∧
  (∀ c, tq_gr (tc_mk S c) (b) 2 1 = some (2)) ∧
  (∀ c, tq_gr (tc_mk S c) (b) 2 2 = some (98)) ∧
  (∀ c, tq_gr (tc_mk S c) (b) 2 3 = some (b + 1)) ∧
  (∀ c, tq_gr (tc_mk S c) (b) 2 4 = some (b + 3)) ∧
  (∀ c, tq_gr (tc_mk S c) (b) 2 5 = some (b + 5)) ∧
  (∀ c, tq_gl (tc_mk S c) (b) 2 6 = some (c.2.2.2.1 (b) 6)) ∧
  (∀ c x, tq_pf (tc_mk S c) (b) 2 6 (.long x) = some (tc_mk S (tc_G c (b) 6 x))) ∧
  (∀ c, tq_gi (tc_mk S c) (b) 2 7 = some (c.2.2.1 (b) 7)) ∧
  (∀ c x, tq_pf (tc_mk S c) (b) 2 7 (.int x) = some (tc_mk S (tc_F c (b) 7 x))) ∧
  (∀ c, tq_is (tc_mk S c) (b + 1) 7 = some ()) ∧
  (∀ c i, f_X7_get (b + 1) i (tc_mk S c) = some (sg 1200 (c.2.1 (b + 2)) i)) ∧
  (∀ c i x, f_X7_set (b + 1) i x (tc_mk S c) = some (tc_mk S (tc_J c (b + 2) (ss 1200 (c.2.1 (b + 2)) i x)))) ∧
  (∀ c i x, f_X7_add (b + 1) i x (tc_mk S c) = some (tc_mk S (tc_J c (b + 2) (ss 1200 (c.2.1 (b + 2)) i (sg 1200 (c.2.1 (b + 2)) i ||| oneI x))))) ∧
  (∀ c, f_X7_emptyAll (b + 1) (tc_mk S c) = some (tc_mk S (tc_J c (b + 2) (fun j => if j < 1200 then 0 else c.2.1 (b + 2) j)))) ∧
  (∀ c, tq_is (tc_mk S c) (b + 3) 7 = some ()) ∧
  (∀ c i, f_X7_get (b + 3) i (tc_mk S c) = some (sg 60 (c.2.1 (b + 4)) i)) ∧
  (∀ c i x, f_X7_set (b + 3) i x (tc_mk S c) = some (tc_mk S (tc_J c (b + 4) (ss 60 (c.2.1 (b + 4)) i x)))) ∧
  (∀ c i x, f_X7_add (b + 3) i x (tc_mk S c) = some (tc_mk S (tc_J c (b + 4) (ss 60 (c.2.1 (b + 4)) i (sg 60 (c.2.1 (b + 4)) i ||| oneI x))))) ∧
  (∀ c, f_X7_emptyAll (b + 3) (tc_mk S c) = some (tc_mk S (tc_J c (b + 4) (fun j => if j < 60 then 0 else c.2.1 (b + 4) j)))) ∧
  (∀ c, tq_is (tc_mk S c) (b + 5) 5 = some ()) ∧
  (∀ c i, f_X5_get (b + 5) i (tc_mk S c) = some (rg 60 (c.1 (b + 6)) i)) ∧
  (∀ c i x, f_X5_set (b + 5) i x (tc_mk S c) = some (tc_mk S (tc_I c (b + 6) (rs 60 (c.1 (b + 6)) i x)))) ∧
  (∀ c x, f_X5_setAll (b + 5) x (tc_mk S c) = some (tc_mk S (tc_I c (b + 6) (fun j => if j < 60 then x else c.1 (b + 6) j)))) :=
  ⟨fun _ => tc_is h.1,
  fun _ => tc_gr h.1 rfl,
  fun _ => tc_gr h.1 rfl,
  fun _ => tc_gr h.1 rfl,
  fun _ => tc_gr h.1 rfl,
  fun _ => tc_gr h.1 rfl,
  fun _ => tc_gr h.1 rfl,
  fun _ => tc_gl h.1 rfl,
  fun _ _ => tc_pfL h.1 rfl,
  fun _ => tc_gi h.1 rfl,
  fun _ _ => tc_pfI h.1 rfl,
  (tc_Set.f h.2.1).1,
  (tc_Set.f h.2.1).2.1,
  (tc_Set.f h.2.1).2.2.1,
  (tc_Set.f h.2.1).2.2.2.1,
  (tc_Set.f h.2.1).2.2.2.2,
  (tc_Set.f h.2.2.1).1,
  (tc_Set.f h.2.2.1).2.1,
  (tc_Set.f h.2.2.1).2.2.1,
  (tc_Set.f h.2.2.1).2.2.2.1,
  (tc_Set.f h.2.2.1).2.2.2.2,
  (tc_Row.f h.2.2.2).1,
  (tc_Row.f h.2.2.2).2.1,
  (tc_Row.f h.2.2.2).2.2.1,
  (tc_Row.f h.2.2.2).2.2.2⟩
def tc_Tq0 (S : tq_H) (b : Nat) : Prop :=
  tc_Row S (b + 149) (b + 150) 5 ∧
  tc_Row S (b + 151) (b + 152) 5 ∧
  tc_Set S (b + 153) (b + 154) 5
theorem tc_Tq0.f {S : tq_H} {b : Nat} (h : tc_Tq0 S b) :
  (∀ c, tq_is (tc_mk S c) (b + 149) 5 = some ()) ∧
  (∀ c i, f_X5_get (b + 149) i (tc_mk S c) = some (rg 5 (c.1 (b + 150)) i)) ∧
  (∀ c i x, f_X5_set (b + 149) i x (tc_mk S c) = some (tc_mk S (tc_I c (b + 150) (rs 5 (c.1 (b + 150)) i x)))) ∧
  (∀ c x, f_X5_setAll (b + 149) x (tc_mk S c) = some (tc_mk S (tc_I c (b + 150) (fun j => if j < 5 then x else c.1 (b + 150) j)))) ∧
  (∀ c, tq_is (tc_mk S c) (b + 151) 5 = some ()) ∧
  (∀ c i, f_X5_get (b + 151) i (tc_mk S c) = some (rg 5 (c.1 (b + 152)) i)) ∧
  (∀ c i x, f_X5_set (b + 151) i x (tc_mk S c) = some (tc_mk S (tc_I c (b + 152) (rs 5 (c.1 (b + 152)) i x)))) ∧
  (∀ c x, f_X5_setAll (b + 151) x (tc_mk S c) = some (tc_mk S (tc_I c (b + 152) (fun j => if j < 5 then x else c.1 (b + 152) j)))) ∧
  (∀ c, tq_is (tc_mk S c) (b + 153) 7 = some ()) ∧
  (∀ c i, f_X7_get (b + 153) i (tc_mk S c) = some (sg 5 (c.2.1 (b + 154)) i)) ∧
  (∀ c i x, f_X7_set (b + 153) i x (tc_mk S c) = some (tc_mk S (tc_J c (b + 154) (ss 5 (c.2.1 (b + 154)) i x)))) ∧
  (∀ c i x, f_X7_add (b + 153) i x (tc_mk S c) = some (tc_mk S (tc_J c (b + 154) (ss 5 (c.2.1 (b + 154)) i (sg 5 (c.2.1 (b + 154)) i ||| oneI x))))) ∧
  (∀ c, f_X7_emptyAll (b + 153) (tc_mk S c) = some (tc_mk S (tc_J c (b + 154) (fun j => if j < 5 then 0 else c.2.1 (b + 154) j)))) :=
  ⟨(tc_Row.f h.1).1,
  (tc_Row.f h.1).2.1,
  (tc_Row.f h.1).2.2.1,
  (tc_Row.f h.1).2.2.2,
  (tc_Row.f h.2.1).1,
  (tc_Row.f h.2.1).2.1,
  (tc_Row.f h.2.1).2.2.1,
  (tc_Row.f h.2.1).2.2.2,
  (tc_Set.f h.2.2).1,
  (tc_Set.f h.2.2).2.1,
  (tc_Set.f h.2.2).2.2.1,
  (tc_Set.f h.2.2).2.2.2.1,
  (tc_Set.f h.2.2).2.2.2.2⟩
def tc_Mod (S : tq_H) (b : Nat) : Prop :=
  S.2 (155) = .inl (11, [.int 0, .int 0, .ref (156), .ref (157), .ref (158), .ref (159), .ref (160), .ref (161), .ref (162), .ref (163), .int 0, .int 0, .ref (164), .ref (165), .ref (166), .int 0, .ref (167), .ref (168), .ref (169), .ref (170), .ref (171), .ref (172), .ref (173), .ref (174), .int 0, .ref (175), .ref (176), .ref (177), .ref (178), .ref (179), .ref (180), .long 0, .int 0, .int 0, .ref (181), .ref (182), .ref (183), .ref (184), .ref (185), .ref (186), .ref (187), .ref (188), .int 0, .ref (189), .ref (190), .int 0, .ref (191), .ref (192), .ref (193), .int 0, .ref (194), .ref (195), .ref (196), .ref (197), .ref (198), .ref (199), .ref (200), .ref (201), .ref (202), .ref (203), .ref (204)]) ∧
  (∃ g, S.2 (156) = .inr (0, (60, .inl g))) ∧
  (∃ g, S.2 (157) = .inr (0, (60, .inl g))) ∧
  (∃ g, S.2 (158) = .inr (0, (60, .inl g))) ∧
  (∃ g, S.2 (159) = .inr (0, (60, .inl g))) ∧
  (∃ g, S.2 (160) = .inr (0, (60, .inl g))) ∧
  (∃ g, S.2 (161) = .inr (0, (60, .inl g))) ∧
  (∃ g, S.2 (162) = .inr (0, (60, .inl g))) ∧
  (∃ g, S.2 (163) = .inr (1, (60, .inl g))) ∧
  (∃ g, S.2 (164) = .inr (0, (60, .inl g))) ∧
  (∃ g, S.2 (165) = .inr (0, (60, .inl g))) ∧
  (∃ g, S.2 (166) = .inr (0, (64, .inl g))) ∧
  (∃ g, S.2 (167) = .inr (0, (140, .inl g))) ∧
  (∃ g, S.2 (168) = .inr (0, (60, .inl g))) ∧
  (∃ g, S.2 (169) = .inr (0, (60, .inl g))) ∧
  (∃ g, S.2 (170) = .inr (0, (60, .inl g))) ∧
  (∃ g, S.2 (171) = .inr (0, (60, .inl g))) ∧
  (∃ g, S.2 (172) = .inr (0, (60, .inl g))) ∧
  (∃ g, S.2 (173) = .inr (1, (60, .inl g))) ∧
  (∃ g, S.2 (174) = .inr (1, (60, .inl g))) ∧
  (∃ g, S.2 (175) = .inr (0, (20, .inl g))) ∧
  (∃ g, S.2 (176) = .inr (0, (300, .inl g))) ∧
  (∃ g, S.2 (177) = .inr (0, (100, .inl g))) ∧
  (∃ g, S.2 (178) = .inr (0, (800, .inl g))) ∧
  (∃ g, S.2 (179) = .inr (2, (1200, .inr (.inl g)))) ∧
  (∃ g, S.2 (180) = .inr (2, (300, .inr (.inl g)))) ∧
  (∃ g, S.2 (181) = .inr (0, (3, .inl g))) ∧
  (∃ g, S.2 (182) = .inr (0, (60, .inl g))) ∧
  (∃ g, S.2 (183) = .inr (0, (6, .inl g))) ∧
  (∃ g, S.2 (184) = .inr (1, (6, .inl g))) ∧
  (∃ g, S.2 (185) = .inr (0, (48, .inl g))) ∧
  (∃ g, S.2 (186) = .inr (0, (6, .inl g))) ∧
  (∃ g, S.2 (187) = .inr (0, (144, .inl g))) ∧
  (∃ g, S.2 (188) = .inr (0, (60, .inl g))) ∧
  (∃ g, S.2 (189) = .inr (0, (5120, .inl g))) ∧
  (∃ g, S.2 (190) = .inr (1, (8, .inl g))) ∧
  (∃ g, S.2 (191) = .inr (0, (5, .inl g))) ∧
  (∃ g, S.2 (192) = .inr (0, (5, .inl g))) ∧
  (∃ g, S.2 (193) = .inr (2, (5, .inr (.inl g)))) ∧
  (∃ g, S.2 (194) = .inr (1, (360, .inl g))) ∧
  (∃ g, S.2 (195) = .inr (0, (360, .inl g))) ∧
  (∃ g, S.2 (196) = .inr (0, (360, .inl g))) ∧
  (∃ g, S.2 (197) = .inr (0, (360, .inl g))) ∧
  (∃ g, S.2 (198) = .inr (0, (360, .inl g))) ∧
  (∃ g, S.2 (199) = .inr (0, (360, .inl g))) ∧
  (∃ g, S.2 (200) = .inr (0, (2, .inl g))) ∧
  (∃ g, S.2 (201) = .inr (0, (122, .inl g))) ∧
  (∃ g, S.2 (202) = .inr (0, (122, .inl g))) ∧
  (∃ g, S.2 (203) = .inr (0, (3721, .inl g))) ∧
  (∃ g, S.2 (204) = .inr (0, (3721, .inl g)))
theorem tc_Mod.f {S : tq_H} {b : Nat} (h : tc_Mod S b) :
  (∀ c, tq_is (tc_mk S c) (155) 11 = some ()) ∧
  (∀ c, tq_gi (tc_mk S c) (155) 11 0 = some (c.2.2.1 (155) 0)) ∧
  (∀ c x, tq_pf (tc_mk S c) (155) 11 0 (.int x) = some (tc_mk S (tc_F c (155) 0 x))) ∧
  (∀ c, tq_gi (tc_mk S c) (155) 11 1 = some (c.2.2.1 (155) 1)) ∧
  (∀ c x, tq_pf (tc_mk S c) (155) 11 1 (.int x) = some (tc_mk S (tc_F c (155) 1 x))) ∧
  (∀ c, tq_gr (tc_mk S c) (155) 11 2 = some (156)) ∧
  (∀ c, tq_gr (tc_mk S c) (155) 11 3 = some (157)) ∧
  (∀ c, tq_gr (tc_mk S c) (155) 11 4 = some (158)) ∧
  (∀ c, tq_gr (tc_mk S c) (155) 11 5 = some (159)) ∧
  (∀ c, tq_gr (tc_mk S c) (155) 11 6 = some (160)) ∧
  (∀ c, tq_gr (tc_mk S c) (155) 11 7 = some (161)) ∧
  (∀ c, tq_gr (tc_mk S c) (155) 11 8 = some (162)) ∧
  (∀ c, tq_gr (tc_mk S c) (155) 11 9 = some (163)) ∧
  (∀ c, tq_gi (tc_mk S c) (155) 11 10 = some (c.2.2.1 (155) 10)) ∧
  (∀ c x, tq_pf (tc_mk S c) (155) 11 10 (.int x) = some (tc_mk S (tc_F c (155) 10 x))) ∧
  (∀ c, tq_gi (tc_mk S c) (155) 11 11 = some (c.2.2.1 (155) 11)) ∧
  (∀ c x, tq_pf (tc_mk S c) (155) 11 11 (.int x) = some (tc_mk S (tc_F c (155) 11 x))) ∧
  (∀ c, tq_gr (tc_mk S c) (155) 11 12 = some (164)) ∧
  (∀ c, tq_gr (tc_mk S c) (155) 11 13 = some (165)) ∧
  (∀ c, tq_gr (tc_mk S c) (155) 11 14 = some (166)) ∧
  (∀ c, tq_gi (tc_mk S c) (155) 11 15 = some (c.2.2.1 (155) 15)) ∧
  (∀ c x, tq_pf (tc_mk S c) (155) 11 15 (.int x) = some (tc_mk S (tc_F c (155) 15 x))) ∧
  (∀ c, tq_gr (tc_mk S c) (155) 11 16 = some (167)) ∧
  (∀ c, tq_gr (tc_mk S c) (155) 11 17 = some (168)) ∧
  (∀ c, tq_gr (tc_mk S c) (155) 11 18 = some (169)) ∧
  (∀ c, tq_gr (tc_mk S c) (155) 11 19 = some (170)) ∧
  (∀ c, tq_gr (tc_mk S c) (155) 11 20 = some (171)) ∧
  (∀ c, tq_gr (tc_mk S c) (155) 11 21 = some (172)) ∧
  (∀ c, tq_gr (tc_mk S c) (155) 11 22 = some (173)) ∧
  (∀ c, tq_gr (tc_mk S c) (155) 11 23 = some (174)) ∧
  (∀ c, tq_gi (tc_mk S c) (155) 11 24 = some (c.2.2.1 (155) 24)) ∧
  (∀ c x, tq_pf (tc_mk S c) (155) 11 24 (.int x) = some (tc_mk S (tc_F c (155) 24 x))) ∧
  (∀ c, tq_gr (tc_mk S c) (155) 11 25 = some (175)) ∧
  (∀ c, tq_gr (tc_mk S c) (155) 11 26 = some (176)) ∧
  (∀ c, tq_gr (tc_mk S c) (155) 11 27 = some (177)) ∧
  (∀ c, tq_gr (tc_mk S c) (155) 11 28 = some (178)) ∧
  (∀ c, tq_gr (tc_mk S c) (155) 11 29 = some (179)) ∧
  (∀ c, tq_gr (tc_mk S c) (155) 11 30 = some (180)) ∧
  (∀ c, tq_gl (tc_mk S c) (155) 11 31 = some (c.2.2.2.1 (155) 31)) ∧
  (∀ c x, tq_pf (tc_mk S c) (155) 11 31 (.long x) = some (tc_mk S (tc_G c (155) 31 x))) ∧
  (∀ c, tq_gi (tc_mk S c) (155) 11 32 = some (c.2.2.1 (155) 32)) ∧
  (∀ c x, tq_pf (tc_mk S c) (155) 11 32 (.int x) = some (tc_mk S (tc_F c (155) 32 x))) ∧
  (∀ c, tq_gi (tc_mk S c) (155) 11 33 = some (c.2.2.1 (155) 33)) ∧
  (∀ c x, tq_pf (tc_mk S c) (155) 11 33 (.int x) = some (tc_mk S (tc_F c (155) 33 x))) ∧
  (∀ c, tq_gr (tc_mk S c) (155) 11 34 = some (181)) ∧
  (∀ c, tq_gr (tc_mk S c) (155) 11 35 = some (182)) ∧
  (∀ c, tq_gr (tc_mk S c) (155) 11 36 = some (183)) ∧
  (∀ c, tq_gr (tc_mk S c) (155) 11 37 = some (184)) ∧
  (∀ c, tq_gr (tc_mk S c) (155) 11 38 = some (185)) ∧
  (∀ c, tq_gr (tc_mk S c) (155) 11 39 = some (186)) ∧
  (∀ c, tq_gr (tc_mk S c) (155) 11 40 = some (187)) ∧
  (∀ c, tq_gr (tc_mk S c) (155) 11 41 = some (188)) ∧
  (∀ c, tq_gi (tc_mk S c) (155) 11 42 = some (c.2.2.1 (155) 42)) ∧
  (∀ c x, tq_pf (tc_mk S c) (155) 11 42 (.int x) = some (tc_mk S (tc_F c (155) 42 x))) ∧
  (∀ c, tq_gr (tc_mk S c) (155) 11 43 = some (189)) ∧
  (∀ c, tq_gr (tc_mk S c) (155) 11 44 = some (190)) ∧
  (∀ c, tq_gi (tc_mk S c) (155) 11 45 = some (c.2.2.1 (155) 45)) ∧
  (∀ c x, tq_pf (tc_mk S c) (155) 11 45 (.int x) = some (tc_mk S (tc_F c (155) 45 x))) ∧
  (∀ c, tq_gr (tc_mk S c) (155) 11 46 = some (191)) ∧
  (∀ c, tq_gr (tc_mk S c) (155) 11 47 = some (192)) ∧
  (∀ c, tq_gr (tc_mk S c) (155) 11 48 = some (193)) ∧
  (∀ c, tq_gi (tc_mk S c) (155) 11 49 = some (c.2.2.1 (155) 49)) ∧
  (∀ c x, tq_pf (tc_mk S c) (155) 11 49 (.int x) = some (tc_mk S (tc_F c (155) 49 x))) ∧
  (∀ c, tq_gr (tc_mk S c) (155) 11 50 = some (194)) ∧
  (∀ c, tq_gr (tc_mk S c) (155) 11 51 = some (195)) ∧
  (∀ c, tq_gr (tc_mk S c) (155) 11 52 = some (196)) ∧
  (∀ c, tq_gr (tc_mk S c) (155) 11 53 = some (197)) ∧
  (∀ c, tq_gr (tc_mk S c) (155) 11 54 = some (198)) ∧
  (∀ c, tq_gr (tc_mk S c) (155) 11 55 = some (199)) ∧
  (∀ c, tq_gr (tc_mk S c) (155) 11 56 = some (200)) ∧
  (∀ c, tq_gr (tc_mk S c) (155) 11 57 = some (201)) ∧
  (∀ c, tq_gr (tc_mk S c) (155) 11 58 = some (202)) ∧
  (∀ c, tq_gr (tc_mk S c) (155) 11 59 = some (203)) ∧
  (∀ c, tq_gr (tc_mk S c) (155) 11 60 = some (204)) ∧
  (∀ c k, k < 60 → tq_ai (tc_mk S c) (156) (nI k) = some (c.1 (156) k)) ∧
  (∀ c k x, k < 60 → tq_si (tc_mk S c) (156) (nI k) x = some (tc_mk S (tc_I c (156) (upd (c.1 (156)) k x)))) ∧
  (∀ c k, k < 60 → tq_ai (tc_mk S c) (157) (nI k) = some (c.1 (157) k)) ∧
  (∀ c k x, k < 60 → tq_si (tc_mk S c) (157) (nI k) x = some (tc_mk S (tc_I c (157) (upd (c.1 (157)) k x)))) ∧
  (∀ c k, k < 60 → tq_ai (tc_mk S c) (158) (nI k) = some (c.1 (158) k)) ∧
  (∀ c k x, k < 60 → tq_si (tc_mk S c) (158) (nI k) x = some (tc_mk S (tc_I c (158) (upd (c.1 (158)) k x)))) ∧
  (∀ c k, k < 60 → tq_ai (tc_mk S c) (159) (nI k) = some (c.1 (159) k)) ∧
  (∀ c k x, k < 60 → tq_si (tc_mk S c) (159) (nI k) x = some (tc_mk S (tc_I c (159) (upd (c.1 (159)) k x)))) ∧
  (∀ c k, k < 60 → tq_ai (tc_mk S c) (160) (nI k) = some (c.1 (160) k)) ∧
  (∀ c k x, k < 60 → tq_si (tc_mk S c) (160) (nI k) x = some (tc_mk S (tc_I c (160) (upd (c.1 (160)) k x)))) ∧
  (∀ c k, k < 60 → tq_ai (tc_mk S c) (161) (nI k) = some (c.1 (161) k)) ∧
  (∀ c k x, k < 60 → tq_si (tc_mk S c) (161) (nI k) x = some (tc_mk S (tc_I c (161) (upd (c.1 (161)) k x)))) ∧
  (∀ c k, k < 60 → tq_ai (tc_mk S c) (162) (nI k) = some (c.1 (162) k)) ∧
  (∀ c k x, k < 60 → tq_si (tc_mk S c) (162) (nI k) x = some (tc_mk S (tc_I c (162) (upd (c.1 (162)) k x)))) ∧
  (∀ c k, k < 60 → tq_az (tc_mk S c) (163) (nI k) = some (c.1 (163) k)) ∧
  (∀ c k b, k < 60 → tq_sz (tc_mk S c) (163) (nI k) (bI b) = some (tc_mk S (tc_I c (163) (upd (c.1 (163)) k (bI b))))) ∧
  (∀ c k, k < 60 → tq_ai (tc_mk S c) (164) (nI k) = some (c.1 (164) k)) ∧
  (∀ c k x, k < 60 → tq_si (tc_mk S c) (164) (nI k) x = some (tc_mk S (tc_I c (164) (upd (c.1 (164)) k x)))) ∧
  (∀ c k, k < 60 → tq_ai (tc_mk S c) (165) (nI k) = some (c.1 (165) k)) ∧
  (∀ c k x, k < 60 → tq_si (tc_mk S c) (165) (nI k) x = some (tc_mk S (tc_I c (165) (upd (c.1 (165)) k x)))) ∧
  (∀ c k, k < 64 → tq_ai (tc_mk S c) (166) (nI k) = some (c.1 (166) k)) ∧
  (∀ c k x, k < 64 → tq_si (tc_mk S c) (166) (nI k) x = some (tc_mk S (tc_I c (166) (upd (c.1 (166)) k x)))) ∧
  (∀ c k, k < 140 → tq_ai (tc_mk S c) (167) (nI k) = some (c.1 (167) k)) ∧
  (∀ c k x, k < 140 → tq_si (tc_mk S c) (167) (nI k) x = some (tc_mk S (tc_I c (167) (upd (c.1 (167)) k x)))) ∧
  (∀ c k, k < 60 → tq_ai (tc_mk S c) (168) (nI k) = some (c.1 (168) k)) ∧
  (∀ c k x, k < 60 → tq_si (tc_mk S c) (168) (nI k) x = some (tc_mk S (tc_I c (168) (upd (c.1 (168)) k x)))) ∧
  (∀ c k, k < 60 → tq_ai (tc_mk S c) (169) (nI k) = some (c.1 (169) k)) ∧
  (∀ c k x, k < 60 → tq_si (tc_mk S c) (169) (nI k) x = some (tc_mk S (tc_I c (169) (upd (c.1 (169)) k x)))) ∧
  (∀ c k, k < 60 → tq_ai (tc_mk S c) (170) (nI k) = some (c.1 (170) k)) ∧
  (∀ c k x, k < 60 → tq_si (tc_mk S c) (170) (nI k) x = some (tc_mk S (tc_I c (170) (upd (c.1 (170)) k x)))) ∧
  (∀ c k, k < 60 → tq_ai (tc_mk S c) (171) (nI k) = some (c.1 (171) k)) ∧
  (∀ c k x, k < 60 → tq_si (tc_mk S c) (171) (nI k) x = some (tc_mk S (tc_I c (171) (upd (c.1 (171)) k x)))) ∧
  (∀ c k, k < 60 → tq_ai (tc_mk S c) (172) (nI k) = some (c.1 (172) k)) ∧
  (∀ c k x, k < 60 → tq_si (tc_mk S c) (172) (nI k) x = some (tc_mk S (tc_I c (172) (upd (c.1 (172)) k x)))) ∧
  (∀ c k, k < 60 → tq_az (tc_mk S c) (173) (nI k) = some (c.1 (173) k)) ∧
  (∀ c k b, k < 60 → tq_sz (tc_mk S c) (173) (nI k) (bI b) = some (tc_mk S (tc_I c (173) (upd (c.1 (173)) k (bI b))))) ∧
  (∀ c k, k < 60 → tq_az (tc_mk S c) (174) (nI k) = some (c.1 (174) k)) ∧
  (∀ c k b, k < 60 → tq_sz (tc_mk S c) (174) (nI k) (bI b) = some (tc_mk S (tc_I c (174) (upd (c.1 (174)) k (bI b))))) ∧
  (∀ c k, k < 20 → tq_ai (tc_mk S c) (175) (nI k) = some (c.1 (175) k)) ∧
  (∀ c k x, k < 20 → tq_si (tc_mk S c) (175) (nI k) x = some (tc_mk S (tc_I c (175) (upd (c.1 (175)) k x)))) ∧
  (∀ c k, k < 300 → tq_ai (tc_mk S c) (176) (nI k) = some (c.1 (176) k)) ∧
  (∀ c k x, k < 300 → tq_si (tc_mk S c) (176) (nI k) x = some (tc_mk S (tc_I c (176) (upd (c.1 (176)) k x)))) ∧
  (∀ c k, k < 100 → tq_ai (tc_mk S c) (177) (nI k) = some (c.1 (177) k)) ∧
  (∀ c k x, k < 100 → tq_si (tc_mk S c) (177) (nI k) x = some (tc_mk S (tc_I c (177) (upd (c.1 (177)) k x)))) ∧
  (∀ c k, k < 800 → tq_ai (tc_mk S c) (178) (nI k) = some (c.1 (178) k)) ∧
  (∀ c k x, k < 800 → tq_si (tc_mk S c) (178) (nI k) x = some (tc_mk S (tc_I c (178) (upd (c.1 (178)) k x)))) ∧
  (∀ c k, k < 1200 → tq_aj (tc_mk S c) (179) (nI k) = some (c.2.1 (179) k)) ∧
  (∀ c k x, k < 1200 → tq_sl (tc_mk S c) (179) (nI k) x = some (tc_mk S (tc_J c (179) (vp_updL (c.2.1 (179)) k x)))) ∧
  (∀ c k, k < 300 → tq_aj (tc_mk S c) (180) (nI k) = some (c.2.1 (180) k)) ∧
  (∀ c k x, k < 300 → tq_sl (tc_mk S c) (180) (nI k) x = some (tc_mk S (tc_J c (180) (vp_updL (c.2.1 (180)) k x)))) ∧
  (∀ c k, k < 3 → tq_ai (tc_mk S c) (181) (nI k) = some (c.1 (181) k)) ∧
  (∀ c k x, k < 3 → tq_si (tc_mk S c) (181) (nI k) x = some (tc_mk S (tc_I c (181) (upd (c.1 (181)) k x)))) ∧
  (∀ c k, k < 60 → tq_ai (tc_mk S c) (182) (nI k) = some (c.1 (182) k)) ∧
  (∀ c k x, k < 60 → tq_si (tc_mk S c) (182) (nI k) x = some (tc_mk S (tc_I c (182) (upd (c.1 (182)) k x)))) ∧
  (∀ c k, k < 6 → tq_ai (tc_mk S c) (183) (nI k) = some (c.1 (183) k)) ∧
  (∀ c k x, k < 6 → tq_si (tc_mk S c) (183) (nI k) x = some (tc_mk S (tc_I c (183) (upd (c.1 (183)) k x)))) ∧
  (∀ c k, k < 6 → tq_az (tc_mk S c) (184) (nI k) = some (c.1 (184) k)) ∧
  (∀ c k b, k < 6 → tq_sz (tc_mk S c) (184) (nI k) (bI b) = some (tc_mk S (tc_I c (184) (upd (c.1 (184)) k (bI b))))) ∧
  (∀ c k, k < 48 → tq_ai (tc_mk S c) (185) (nI k) = some (c.1 (185) k)) ∧
  (∀ c k x, k < 48 → tq_si (tc_mk S c) (185) (nI k) x = some (tc_mk S (tc_I c (185) (upd (c.1 (185)) k x)))) ∧
  (∀ c k, k < 6 → tq_ai (tc_mk S c) (186) (nI k) = some (c.1 (186) k)) ∧
  (∀ c k x, k < 6 → tq_si (tc_mk S c) (186) (nI k) x = some (tc_mk S (tc_I c (186) (upd (c.1 (186)) k x)))) ∧
  (∀ c k, k < 144 → tq_ai (tc_mk S c) (187) (nI k) = some (c.1 (187) k)) ∧
  (∀ c k x, k < 144 → tq_si (tc_mk S c) (187) (nI k) x = some (tc_mk S (tc_I c (187) (upd (c.1 (187)) k x)))) ∧
  (∀ c k, k < 60 → tq_ai (tc_mk S c) (188) (nI k) = some (c.1 (188) k)) ∧
  (∀ c k x, k < 60 → tq_si (tc_mk S c) (188) (nI k) x = some (tc_mk S (tc_I c (188) (upd (c.1 (188)) k x)))) ∧
  (∀ c k, k < 5120 → tq_ai (tc_mk S c) (189) (nI k) = some (c.1 (189) k)) ∧
  (∀ c k x, k < 5120 → tq_si (tc_mk S c) (189) (nI k) x = some (tc_mk S (tc_I c (189) (upd (c.1 (189)) k x)))) ∧
  (∀ c k, k < 8 → tq_az (tc_mk S c) (190) (nI k) = some (c.1 (190) k)) ∧
  (∀ c k b, k < 8 → tq_sz (tc_mk S c) (190) (nI k) (bI b) = some (tc_mk S (tc_I c (190) (upd (c.1 (190)) k (bI b))))) ∧
  (∀ c k, k < 5 → tq_ai (tc_mk S c) (191) (nI k) = some (c.1 (191) k)) ∧
  (∀ c k x, k < 5 → tq_si (tc_mk S c) (191) (nI k) x = some (tc_mk S (tc_I c (191) (upd (c.1 (191)) k x)))) ∧
  (∀ c k, k < 5 → tq_ai (tc_mk S c) (192) (nI k) = some (c.1 (192) k)) ∧
  (∀ c k x, k < 5 → tq_si (tc_mk S c) (192) (nI k) x = some (tc_mk S (tc_I c (192) (upd (c.1 (192)) k x)))) ∧
  (∀ c k, k < 5 → tq_aj (tc_mk S c) (193) (nI k) = some (c.2.1 (193) k)) ∧
  (∀ c k x, k < 5 → tq_sl (tc_mk S c) (193) (nI k) x = some (tc_mk S (tc_J c (193) (vp_updL (c.2.1 (193)) k x)))) ∧
  (∀ c k, k < 360 → tq_az (tc_mk S c) (194) (nI k) = some (c.1 (194) k)) ∧
  (∀ c k b, k < 360 → tq_sz (tc_mk S c) (194) (nI k) (bI b) = some (tc_mk S (tc_I c (194) (upd (c.1 (194)) k (bI b))))) ∧
  (∀ c k, k < 360 → tq_ai (tc_mk S c) (195) (nI k) = some (c.1 (195) k)) ∧
  (∀ c k x, k < 360 → tq_si (tc_mk S c) (195) (nI k) x = some (tc_mk S (tc_I c (195) (upd (c.1 (195)) k x)))) ∧
  (∀ c k, k < 360 → tq_ai (tc_mk S c) (196) (nI k) = some (c.1 (196) k)) ∧
  (∀ c k x, k < 360 → tq_si (tc_mk S c) (196) (nI k) x = some (tc_mk S (tc_I c (196) (upd (c.1 (196)) k x)))) ∧
  (∀ c k, k < 360 → tq_ai (tc_mk S c) (197) (nI k) = some (c.1 (197) k)) ∧
  (∀ c k x, k < 360 → tq_si (tc_mk S c) (197) (nI k) x = some (tc_mk S (tc_I c (197) (upd (c.1 (197)) k x)))) ∧
  (∀ c k, k < 360 → tq_ai (tc_mk S c) (198) (nI k) = some (c.1 (198) k)) ∧
  (∀ c k x, k < 360 → tq_si (tc_mk S c) (198) (nI k) x = some (tc_mk S (tc_I c (198) (upd (c.1 (198)) k x)))) ∧
  (∀ c k, k < 360 → tq_ai (tc_mk S c) (199) (nI k) = some (c.1 (199) k)) ∧
  (∀ c k x, k < 360 → tq_si (tc_mk S c) (199) (nI k) x = some (tc_mk S (tc_I c (199) (upd (c.1 (199)) k x)))) ∧
  (∀ c k, k < 2 → tq_ai (tc_mk S c) (200) (nI k) = some (c.1 (200) k)) ∧
  (∀ c k x, k < 2 → tq_si (tc_mk S c) (200) (nI k) x = some (tc_mk S (tc_I c (200) (upd (c.1 (200)) k x)))) ∧
  (∀ c k, k < 122 → tq_ai (tc_mk S c) (201) (nI k) = some (c.1 (201) k)) ∧
  (∀ c k x, k < 122 → tq_si (tc_mk S c) (201) (nI k) x = some (tc_mk S (tc_I c (201) (upd (c.1 (201)) k x)))) ∧
  (∀ c k, k < 122 → tq_ai (tc_mk S c) (202) (nI k) = some (c.1 (202) k)) ∧
  (∀ c k x, k < 122 → tq_si (tc_mk S c) (202) (nI k) x = some (tc_mk S (tc_I c (202) (upd (c.1 (202)) k x)))) ∧
  (∀ c k, k < 3721 → tq_ai (tc_mk S c) (203) (nI k) = some (c.1 (203) k)) ∧
  (∀ c k x, k < 3721 → tq_si (tc_mk S c) (203) (nI k) x = some (tc_mk S (tc_I c (203) (upd (c.1 (203)) k x)))) ∧
  (∀ c k, k < 3721 → tq_ai (tc_mk S c) (204) (nI k) = some (c.1 (204) k)) ∧
  (∀ c k x, k < 3721 → tq_si (tc_mk S c) (204) (nI k) x = some (tc_mk S (tc_I c (204) (upd (c.1 (204)) k x)))) :=
  ⟨fun _ => tc_is h.1,
  fun _ => tc_gi h.1 rfl,
  fun _ _ => tc_pfI h.1 rfl,
  fun _ => tc_gi h.1 rfl,
  fun _ _ => tc_pfI h.1 rfl,
  fun _ => tc_gr h.1 rfl,
  fun _ => tc_gr h.1 rfl,
  fun _ => tc_gr h.1 rfl,
  fun _ => tc_gr h.1 rfl,
  fun _ => tc_gr h.1 rfl,
  fun _ => tc_gr h.1 rfl,
  fun _ => tc_gr h.1 rfl,
  fun _ => tc_gr h.1 rfl,
  fun _ => tc_gi h.1 rfl,
  fun _ _ => tc_pfI h.1 rfl,
  fun _ => tc_gi h.1 rfl,
  fun _ _ => tc_pfI h.1 rfl,
  fun _ => tc_gr h.1 rfl,
  fun _ => tc_gr h.1 rfl,
  fun _ => tc_gr h.1 rfl,
  fun _ => tc_gi h.1 rfl,
  fun _ _ => tc_pfI h.1 rfl,
  fun _ => tc_gr h.1 rfl,
  fun _ => tc_gr h.1 rfl,
  fun _ => tc_gr h.1 rfl,
  fun _ => tc_gr h.1 rfl,
  fun _ => tc_gr h.1 rfl,
  fun _ => tc_gr h.1 rfl,
  fun _ => tc_gr h.1 rfl,
  fun _ => tc_gr h.1 rfl,
  fun _ => tc_gi h.1 rfl,
  fun _ _ => tc_pfI h.1 rfl,
  fun _ => tc_gr h.1 rfl,
  fun _ => tc_gr h.1 rfl,
  fun _ => tc_gr h.1 rfl,
  fun _ => tc_gr h.1 rfl,
  fun _ => tc_gr h.1 rfl,
  fun _ => tc_gr h.1 rfl,
  fun _ => tc_gl h.1 rfl,
  fun _ _ => tc_pfL h.1 rfl,
  fun _ => tc_gi h.1 rfl,
  fun _ _ => tc_pfI h.1 rfl,
  fun _ => tc_gi h.1 rfl,
  fun _ _ => tc_pfI h.1 rfl,
  fun _ => tc_gr h.1 rfl,
  fun _ => tc_gr h.1 rfl,
  fun _ => tc_gr h.1 rfl,
  fun _ => tc_gr h.1 rfl,
  fun _ => tc_gr h.1 rfl,
  fun _ => tc_gr h.1 rfl,
  fun _ => tc_gr h.1 rfl,
  fun _ => tc_gr h.1 rfl,
  fun _ => tc_gi h.1 rfl,
  fun _ _ => tc_pfI h.1 rfl,
  fun _ => tc_gr h.1 rfl,
  fun _ => tc_gr h.1 rfl,
  fun _ => tc_gi h.1 rfl,
  fun _ _ => tc_pfI h.1 rfl,
  fun _ => tc_gr h.1 rfl,
  fun _ => tc_gr h.1 rfl,
  fun _ => tc_gr h.1 rfl,
  fun _ => tc_gi h.1 rfl,
  fun _ _ => tc_pfI h.1 rfl,
  fun _ => tc_gr h.1 rfl,
  fun _ => tc_gr h.1 rfl,
  fun _ => tc_gr h.1 rfl,
  fun _ => tc_gr h.1 rfl,
  fun _ => tc_gr h.1 rfl,
  fun _ => tc_gr h.1 rfl,
  fun _ => tc_gr h.1 rfl,
  fun _ => tc_gr h.1 rfl,
  fun _ => tc_gr h.1 rfl,
  fun _ => tc_gr h.1 rfl,
  fun _ => tc_gr h.1 rfl,
  fun _ _ hk => tc_aiN h.2.1 hk (by decide),
  fun _ _ x hk => tc_siN h.2.1 x hk (by decide),
  fun _ _ hk => tc_aiN h.2.2.1 hk (by decide),
  fun _ _ x hk => tc_siN h.2.2.1 x hk (by decide),
  fun _ _ hk => tc_aiN h.2.2.2.1 hk (by decide),
  fun _ _ x hk => tc_siN h.2.2.2.1 x hk (by decide),
  fun _ _ hk => tc_aiN h.2.2.2.2.1 hk (by decide),
  fun _ _ x hk => tc_siN h.2.2.2.2.1 x hk (by decide),
  fun _ _ hk => tc_aiN h.2.2.2.2.2.1 hk (by decide),
  fun _ _ x hk => tc_siN h.2.2.2.2.2.1 x hk (by decide),
  fun _ _ hk => tc_aiN h.2.2.2.2.2.2.1 hk (by decide),
  fun _ _ x hk => tc_siN h.2.2.2.2.2.2.1 x hk (by decide),
  fun _ _ hk => tc_aiN h.2.2.2.2.2.2.2.1 hk (by decide),
  fun _ _ x hk => tc_siN h.2.2.2.2.2.2.2.1 x hk (by decide),
  fun _ _ hk => tc_azN h.2.2.2.2.2.2.2.2.1 hk (by decide),
  fun _ _ b hk => tc_szN h.2.2.2.2.2.2.2.2.1 b hk (by decide),
  fun _ _ hk => tc_aiN h.2.2.2.2.2.2.2.2.2.1 hk (by decide),
  fun _ _ x hk => tc_siN h.2.2.2.2.2.2.2.2.2.1 x hk (by decide),
  fun _ _ hk => tc_aiN h.2.2.2.2.2.2.2.2.2.2.1 hk (by decide),
  fun _ _ x hk => tc_siN h.2.2.2.2.2.2.2.2.2.2.1 x hk (by decide),
  fun _ _ hk => tc_aiN h.2.2.2.2.2.2.2.2.2.2.2.1 hk (by decide),
  fun _ _ x hk => tc_siN h.2.2.2.2.2.2.2.2.2.2.2.1 x hk (by decide),
  fun _ _ hk => tc_aiN h.2.2.2.2.2.2.2.2.2.2.2.2.1 hk (by decide),
  fun _ _ x hk => tc_siN h.2.2.2.2.2.2.2.2.2.2.2.2.1 x hk (by decide),
  fun _ _ hk => tc_aiN h.2.2.2.2.2.2.2.2.2.2.2.2.2.1 hk (by decide),
  fun _ _ x hk => tc_siN h.2.2.2.2.2.2.2.2.2.2.2.2.2.1 x hk (by decide),
  fun _ _ hk => tc_aiN h.2.2.2.2.2.2.2.2.2.2.2.2.2.2.1 hk (by decide),
  fun _ _ x hk => tc_siN h.2.2.2.2.2.2.2.2.2.2.2.2.2.2.1 x hk (by decide),
  fun _ _ hk => tc_aiN h.2.2.2.2.2.2.2.2.2.2.2.2.2.2.2.1 hk (by decide),
  fun _ _ x hk => tc_siN h.2.2.2.2.2.2.2.2.2.2.2.2.2.2.2.1 x hk (by decide),
  fun _ _ hk => tc_aiN h.2.2.2.2.2.2.2.2.2.2.2.2.2.2.2.2.1 hk (by decide),
  fun _ _ x hk => tc_siN h.2.2.2.2.2.2.2.2.2.2.2.2.2.2.2.2.1 x hk (by decide),
  fun _ _ hk => tc_aiN h.2.2.2.2.2.2.2.2.2.2.2.2.2.2.2.2.2.1 hk (by decide),
  fun _ _ x hk => tc_siN h.2.2.2.2.2.2.2.2.2.2.2.2.2.2.2.2.2.1 x hk (by decide),
  fun _ _ hk => tc_azN h.2.2.2.2.2.2.2.2.2.2.2.2.2.2.2.2.2.2.1 hk (by decide),
  fun _ _ b hk => tc_szN h.2.2.2.2.2.2.2.2.2.2.2.2.2.2.2.2.2.2.1 b hk (by decide),
  fun _ _ hk => tc_azN h.2.2.2.2.2.2.2.2.2.2.2.2.2.2.2.2.2.2.2.1 hk (by decide),
  fun _ _ b hk => tc_szN h.2.2.2.2.2.2.2.2.2.2.2.2.2.2.2.2.2.2.2.1 b hk (by decide),
  fun _ _ hk => tc_aiN h.2.2.2.2.2.2.2.2.2.2.2.2.2.2.2.2.2.2.2.2.1 hk (by decide),
  fun _ _ x hk => tc_siN h.2.2.2.2.2.2.2.2.2.2.2.2.2.2.2.2.2.2.2.2.1 x hk (by decide),
  fun _ _ hk => tc_aiN h.2.2.2.2.2.2.2.2.2.2.2.2.2.2.2.2.2.2.2.2.2.1 hk (by decide),
  fun _ _ x hk => tc_siN h.2.2.2.2.2.2.2.2.2.2.2.2.2.2.2.2.2.2.2.2.2.1 x hk (by decide),
  fun _ _ hk => tc_aiN h.2.2.2.2.2.2.2.2.2.2.2.2.2.2.2.2.2.2.2.2.2.2.1 hk (by decide),
  fun _ _ x hk => tc_siN h.2.2.2.2.2.2.2.2.2.2.2.2.2.2.2.2.2.2.2.2.2.2.1 x hk (by decide),
  fun _ _ hk => tc_aiN h.2.2.2.2.2.2.2.2.2.2.2.2.2.2.2.2.2.2.2.2.2.2.2.1 hk (by decide),
  fun _ _ x hk => tc_siN h.2.2.2.2.2.2.2.2.2.2.2.2.2.2.2.2.2.2.2.2.2.2.2.1 x hk (by decide),
  fun _ _ hk => tc_ajN h.2.2.2.2.2.2.2.2.2.2.2.2.2.2.2.2.2.2.2.2.2.2.2.2.1 hk (by decide),
  fun _ _ x hk => tc_slN h.2.2.2.2.2.2.2.2.2.2.2.2.2.2.2.2.2.2.2.2.2.2.2.2.1 x hk (by decide),
  fun _ _ hk => tc_ajN h.2.2.2.2.2.2.2.2.2.2.2.2.2.2.2.2.2.2.2.2.2.2.2.2.2.1 hk (by decide),
  fun _ _ x hk => tc_slN h.2.2.2.2.2.2.2.2.2.2.2.2.2.2.2.2.2.2.2.2.2.2.2.2.2.1 x hk (by decide),
  fun _ _ hk => tc_aiN h.2.2.2.2.2.2.2.2.2.2.2.2.2.2.2.2.2.2.2.2.2.2.2.2.2.2.1 hk (by decide),
  fun _ _ x hk => tc_siN h.2.2.2.2.2.2.2.2.2.2.2.2.2.2.2.2.2.2.2.2.2.2.2.2.2.2.1 x hk (by decide),
  fun _ _ hk => tc_aiN h.2.2.2.2.2.2.2.2.2.2.2.2.2.2.2.2.2.2.2.2.2.2.2.2.2.2.2.1 hk (by decide),
  fun _ _ x hk => tc_siN h.2.2.2.2.2.2.2.2.2.2.2.2.2.2.2.2.2.2.2.2.2.2.2.2.2.2.2.1 x hk (by decide),
  fun _ _ hk => tc_aiN h.2.2.2.2.2.2.2.2.2.2.2.2.2.2.2.2.2.2.2.2.2.2.2.2.2.2.2.2.1 hk (by decide),
  fun _ _ x hk => tc_siN h.2.2.2.2.2.2.2.2.2.2.2.2.2.2.2.2.2.2.2.2.2.2.2.2.2.2.2.2.1 x hk (by decide),
  fun _ _ hk => tc_azN h.2.2.2.2.2.2.2.2.2.2.2.2.2.2.2.2.2.2.2.2.2.2.2.2.2.2.2.2.2.1 hk (by decide),
  fun _ _ b hk => tc_szN h.2.2.2.2.2.2.2.2.2.2.2.2.2.2.2.2.2.2.2.2.2.2.2.2.2.2.2.2.2.1 b hk (by decide),
  fun _ _ hk => tc_aiN h.2.2.2.2.2.2.2.2.2.2.2.2.2.2.2.2.2.2.2.2.2.2.2.2.2.2.2.2.2.2.1 hk (by decide),
  fun _ _ x hk => tc_siN h.2.2.2.2.2.2.2.2.2.2.2.2.2.2.2.2.2.2.2.2.2.2.2.2.2.2.2.2.2.2.1 x hk (by decide),
  fun _ _ hk => tc_aiN h.2.2.2.2.2.2.2.2.2.2.2.2.2.2.2.2.2.2.2.2.2.2.2.2.2.2.2.2.2.2.2.1 hk (by decide),
  fun _ _ x hk => tc_siN h.2.2.2.2.2.2.2.2.2.2.2.2.2.2.2.2.2.2.2.2.2.2.2.2.2.2.2.2.2.2.2.1 x hk (by decide),
  fun _ _ hk => tc_aiN h.2.2.2.2.2.2.2.2.2.2.2.2.2.2.2.2.2.2.2.2.2.2.2.2.2.2.2.2.2.2.2.2.1 hk (by decide),
  fun _ _ x hk => tc_siN h.2.2.2.2.2.2.2.2.2.2.2.2.2.2.2.2.2.2.2.2.2.2.2.2.2.2.2.2.2.2.2.2.1 x hk (by decide),
  fun _ _ hk => tc_aiN h.2.2.2.2.2.2.2.2.2.2.2.2.2.2.2.2.2.2.2.2.2.2.2.2.2.2.2.2.2.2.2.2.2.1 hk (by decide),
  fun _ _ x hk => tc_siN h.2.2.2.2.2.2.2.2.2.2.2.2.2.2.2.2.2.2.2.2.2.2.2.2.2.2.2.2.2.2.2.2.2.1 x hk (by decide),
  fun _ _ hk => tc_aiN h.2.2.2.2.2.2.2.2.2.2.2.2.2.2.2.2.2.2.2.2.2.2.2.2.2.2.2.2.2.2.2.2.2.2.1 hk (by decide),
  fun _ _ x hk => tc_siN h.2.2.2.2.2.2.2.2.2.2.2.2.2.2.2.2.2.2.2.2.2.2.2.2.2.2.2.2.2.2.2.2.2.2.1 x hk (by decide),
  fun _ _ hk => tc_azN h.2.2.2.2.2.2.2.2.2.2.2.2.2.2.2.2.2.2.2.2.2.2.2.2.2.2.2.2.2.2.2.2.2.2.2.1 hk (by decide),
  fun _ _ b hk => tc_szN h.2.2.2.2.2.2.2.2.2.2.2.2.2.2.2.2.2.2.2.2.2.2.2.2.2.2.2.2.2.2.2.2.2.2.2.1 b hk (by decide),
  fun _ _ hk => tc_aiN h.2.2.2.2.2.2.2.2.2.2.2.2.2.2.2.2.2.2.2.2.2.2.2.2.2.2.2.2.2.2.2.2.2.2.2.2.1 hk (by decide),
  fun _ _ x hk => tc_siN h.2.2.2.2.2.2.2.2.2.2.2.2.2.2.2.2.2.2.2.2.2.2.2.2.2.2.2.2.2.2.2.2.2.2.2.2.1 x hk (by decide),
  fun _ _ hk => tc_aiN h.2.2.2.2.2.2.2.2.2.2.2.2.2.2.2.2.2.2.2.2.2.2.2.2.2.2.2.2.2.2.2.2.2.2.2.2.2.1 hk (by decide),
  fun _ _ x hk => tc_siN h.2.2.2.2.2.2.2.2.2.2.2.2.2.2.2.2.2.2.2.2.2.2.2.2.2.2.2.2.2.2.2.2.2.2.2.2.2.1 x hk (by decide),
  fun _ _ hk => tc_ajN h.2.2.2.2.2.2.2.2.2.2.2.2.2.2.2.2.2.2.2.2.2.2.2.2.2.2.2.2.2.2.2.2.2.2.2.2.2.2.1 hk (by decide),
  fun _ _ x hk => tc_slN h.2.2.2.2.2.2.2.2.2.2.2.2.2.2.2.2.2.2.2.2.2.2.2.2.2.2.2.2.2.2.2.2.2.2.2.2.2.2.1 x hk (by decide),
  fun _ _ hk => tc_azN h.2.2.2.2.2.2.2.2.2.2.2.2.2.2.2.2.2.2.2.2.2.2.2.2.2.2.2.2.2.2.2.2.2.2.2.2.2.2.2.1 hk (by decide),
  fun _ _ b hk => tc_szN h.2.2.2.2.2.2.2.2.2.2.2.2.2.2.2.2.2.2.2.2.2.2.2.2.2.2.2.2.2.2.2.2.2.2.2.2.2.2.2.1 b hk (by decide),
  fun _ _ hk => tc_aiN h.2.2.2.2.2.2.2.2.2.2.2.2.2.2.2.2.2.2.2.2.2.2.2.2.2.2.2.2.2.2.2.2.2.2.2.2.2.2.2.2.1 hk (by decide),
  fun _ _ x hk => tc_siN h.2.2.2.2.2.2.2.2.2.2.2.2.2.2.2.2.2.2.2.2.2.2.2.2.2.2.2.2.2.2.2.2.2.2.2.2.2.2.2.2.1 x hk (by decide),
  fun _ _ hk => tc_aiN h.2.2.2.2.2.2.2.2.2.2.2.2.2.2.2.2.2.2.2.2.2.2.2.2.2.2.2.2.2.2.2.2.2.2.2.2.2.2.2.2.2.1 hk (by decide),
  fun _ _ x hk => tc_siN h.2.2.2.2.2.2.2.2.2.2.2.2.2.2.2.2.2.2.2.2.2.2.2.2.2.2.2.2.2.2.2.2.2.2.2.2.2.2.2.2.2.1 x hk (by decide),
  fun _ _ hk => tc_aiN h.2.2.2.2.2.2.2.2.2.2.2.2.2.2.2.2.2.2.2.2.2.2.2.2.2.2.2.2.2.2.2.2.2.2.2.2.2.2.2.2.2.2.1 hk (by decide),
  fun _ _ x hk => tc_siN h.2.2.2.2.2.2.2.2.2.2.2.2.2.2.2.2.2.2.2.2.2.2.2.2.2.2.2.2.2.2.2.2.2.2.2.2.2.2.2.2.2.2.1 x hk (by decide),
  fun _ _ hk => tc_aiN h.2.2.2.2.2.2.2.2.2.2.2.2.2.2.2.2.2.2.2.2.2.2.2.2.2.2.2.2.2.2.2.2.2.2.2.2.2.2.2.2.2.2.2.1 hk (by decide),
  fun _ _ x hk => tc_siN h.2.2.2.2.2.2.2.2.2.2.2.2.2.2.2.2.2.2.2.2.2.2.2.2.2.2.2.2.2.2.2.2.2.2.2.2.2.2.2.2.2.2.2.1 x hk (by decide),
  fun _ _ hk => tc_aiN h.2.2.2.2.2.2.2.2.2.2.2.2.2.2.2.2.2.2.2.2.2.2.2.2.2.2.2.2.2.2.2.2.2.2.2.2.2.2.2.2.2.2.2.2.1 hk (by decide),
  fun _ _ x hk => tc_siN h.2.2.2.2.2.2.2.2.2.2.2.2.2.2.2.2.2.2.2.2.2.2.2.2.2.2.2.2.2.2.2.2.2.2.2.2.2.2.2.2.2.2.2.2.1 x hk (by decide),
  fun _ _ hk => tc_aiN h.2.2.2.2.2.2.2.2.2.2.2.2.2.2.2.2.2.2.2.2.2.2.2.2.2.2.2.2.2.2.2.2.2.2.2.2.2.2.2.2.2.2.2.2.2.1 hk (by decide),
  fun _ _ x hk => tc_siN h.2.2.2.2.2.2.2.2.2.2.2.2.2.2.2.2.2.2.2.2.2.2.2.2.2.2.2.2.2.2.2.2.2.2.2.2.2.2.2.2.2.2.2.2.2.1 x hk (by decide),
  fun _ _ hk => tc_aiN h.2.2.2.2.2.2.2.2.2.2.2.2.2.2.2.2.2.2.2.2.2.2.2.2.2.2.2.2.2.2.2.2.2.2.2.2.2.2.2.2.2.2.2.2.2.2.1 hk (by decide),
  fun _ _ x hk => tc_siN h.2.2.2.2.2.2.2.2.2.2.2.2.2.2.2.2.2.2.2.2.2.2.2.2.2.2.2.2.2.2.2.2.2.2.2.2.2.2.2.2.2.2.2.2.2.2.1 x hk (by decide),
  fun _ _ hk => tc_aiN h.2.2.2.2.2.2.2.2.2.2.2.2.2.2.2.2.2.2.2.2.2.2.2.2.2.2.2.2.2.2.2.2.2.2.2.2.2.2.2.2.2.2.2.2.2.2.2.1 hk (by decide),
  fun _ _ x hk => tc_siN h.2.2.2.2.2.2.2.2.2.2.2.2.2.2.2.2.2.2.2.2.2.2.2.2.2.2.2.2.2.2.2.2.2.2.2.2.2.2.2.2.2.2.2.2.2.2.2.1 x hk (by decide),
  fun _ _ hk => tc_aiN h.2.2.2.2.2.2.2.2.2.2.2.2.2.2.2.2.2.2.2.2.2.2.2.2.2.2.2.2.2.2.2.2.2.2.2.2.2.2.2.2.2.2.2.2.2.2.2.2.1 hk (by decide),
  fun _ _ x hk => tc_siN h.2.2.2.2.2.2.2.2.2.2.2.2.2.2.2.2.2.2.2.2.2.2.2.2.2.2.2.2.2.2.2.2.2.2.2.2.2.2.2.2.2.2.2.2.2.2.2.2.1 x hk (by decide),
  fun _ _ hk => tc_aiN h.2.2.2.2.2.2.2.2.2.2.2.2.2.2.2.2.2.2.2.2.2.2.2.2.2.2.2.2.2.2.2.2.2.2.2.2.2.2.2.2.2.2.2.2.2.2.2.2.2 hk (by decide),
  fun _ _ x hk => tc_siN h.2.2.2.2.2.2.2.2.2.2.2.2.2.2.2.2.2.2.2.2.2.2.2.2.2.2.2.2.2.2.2.2.2.2.2.2.2.2.2.2.2.2.2.2.2.2.2.2.2 x hk (by decide)⟩
