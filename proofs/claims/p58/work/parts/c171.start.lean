/-! ===== the objects at the start ===== -/
section MKS
variable {H : tq_H} {B : List tq_O} {fs : List Value} {a l p k N i : Nat}
def updB (b : Nat) : List tq_O :=
  .inl (9, [.ref (b + 1), .ref (b + 3), .ref (b + 5), .ref (b + 7), .ref (b + 9), .ref (b + 11), .ref (b + 13), .ref (b + 15), .long 0, .long 0, .long 0, .int 0]) ::
  (rowB (b + 1) 20 (-1) ++ rowB (b + 3) 20 (-1) ++ rowB (b + 5) 20 (-1) ++ rowB (b + 7) 20 (-1) ++ rowB (b + 9) 20 (-1) ++ rowB (b + 11) 20 (-1) ++ rowB (b + 13) 20 (-1) ++ rowB (b + 15) 20 (-1))
theorem mk_upd (H : tq_H) : f_X9_init H.1 (hl H [.inl (9, [.null, .null, .null, .null, .null, .null, .null, .null, .long 0, .long 0, .long 0, .int 0])]) = some (hl H (updB H.1)) := by
  unfold f_X9_init
  rw [st_row (a := 20) 20 (H.1 + 1) (by decide) rfl (by simp) rfl, st_row (a := 20) 20 (H.1 + 3) (by decide) rfl (by simp) rfl, st_row (a := 20) 20 (H.1 + 5) (by decide) rfl (by simp) rfl, st_row (a := 20) 20 (H.1 + 7) (by decide) rfl (by simp) rfl, st_row (a := 20) 20 (H.1 + 9) (by decide) rfl (by simp) rfl, st_row (a := 20) 20 (H.1 + 11) (by decide) rfl (by simp) rfl, st_row (a := 20) 20 (H.1 + 13) (by decide) rfl (by simp) rfl, st_row (a := 20) 20 (H.1 + 15) (by decide) rfl (by simp) rfl, st_pf (by simp), st_pf (by simp), st_pf (by simp), st_pf (by simp)]
  rfl
def pthB (b : Nat) : List tq_O :=
  .inl (4, [.ref (b + 1), .ref (b + 3), .ref (b + 5), .ref (b + 7), .ref (b + 9), .ref (b + 11), .ref (b + 13), .ref (b + 15), .ref (b + 17), .int 0]) ::
  (rowB (b + 1) 20 0 ++ rowB (b + 3) 100 (-1) ++ rowB (b + 5) 100 (-1) ++ rowB (b + 7) 100 (-1) ++ rowB (b + 9) 100 0 ++ rowB (b + 11) 200 (-1) ++ rowB (b + 13) 200 (-1) ++ rowB (b + 15) 200 (-1) ++ rowB (b + 17) 200 (-1))
theorem mk_pth (H : tq_H) : f_X4_init H.1 (hl H [.inl (4, [.null, .null, .null, .null, .null, .null, .null, .null, .null, .int 0])]) = some (hl H (pthB H.1)) := by
  unfold f_X4_init
  rw [st_row (a := 20) 20 (H.1 + 1) (by decide) rfl (by simp) rfl, st_row (a := 100) 100 (H.1 + 3) (by decide) rfl (by simp) rfl, st_row (a := 100) 100 (H.1 + 5) (by decide) rfl (by simp) rfl, st_row (a := 100) 100 (H.1 + 7) (by decide) rfl (by simp) rfl, st_row (a := 100) 100 (H.1 + 9) (by decide) rfl (by simp) rfl, st_row (a := 200) 200 (H.1 + 11) (by decide) rfl (by simp) rfl, st_row (a := 200) 200 (H.1 + 13) (by decide) rfl (by simp) rfl, st_row (a := 200) 200 (H.1 + 15) (by decide) rfl (by simp) rfl, st_row (a := 200) 200 (H.1 + 17) (by decide) rfl (by simp) rfl, st_pf (by simp)]
  rfl
def schB (b : Nat) : List tq_O :=
  .inl (6, [.ref (b + 1), .ref (b + 3), .ref (b + 5), .ref (b + 7), .ref (b + 9), .ref (b + 11), .ref (b + 13), .ref (b + 15), .int 0, .int 0, .int 0]) ::
  (rowB (b + 1) 6 (-1) ++ rowB (b + 3) 6 1 ++ rowB (b + 5) 48 0 ++ rowB (b + 7) 144 0 ++ rowB (b + 9) 60 0 ++ rowB (b + 11) 8 0 ++ rowB (b + 13) 8 0 ++ rowB (b + 15) 160 0)
theorem mk_sch (H : tq_H) : f_X6_init H.1 (hl H [.inl (6, [.null, .null, .null, .null, .null, .null, .null, .null, .int 0, .int 0, .int 0])]) = some (hl H (schB H.1)) := by
  unfold f_X6_init
  rw [st_row (a := 6) 6 (H.1 + 1) (by decide) rfl (by simp) rfl, st_row (a := 6) 6 (H.1 + 3) (by decide) rfl (by simp) rfl, st_row (a := 48) 48 (H.1 + 5) (by decide) rfl (by simp) rfl, st_row (a := 144) 144 (H.1 + 7) (by decide) rfl (by simp) rfl, st_row (a := 60) 60 (H.1 + 9) (by decide) rfl (by simp) rfl, st_row (a := 8) 8 (H.1 + 11) (by decide) rfl (by simp) rfl, st_row (a := 8) 8 (H.1 + 13) (by decide) rfl (by simp) rfl, st_row (a := 160) 160 (H.1 + 15) (by decide) rfl (by simp) rfl, st_pf (by simp), st_pf (by simp), st_pf (by simp)]
  rfl
def fndB (b a l p : Nat) : List tq_O :=
  .inl (2, [.ref a, .ref l, .ref p, .ref (b + 1), .ref (b + 3), .ref (b + 5), .long 0, .int 0]) :: (setB (b + 1) 1200 ++ setB (b + 3) 60 ++ rowB (b + 5) 60 (-1))
theorem gr_old (h : a < H.1) (ci k : Nat) (L : List tq_O) : tq_gr (hl H L) a ci k = tq_gr H a ci k := by
  unfold tq_gr
  rw [hl_old h]
theorem mk_fnd (H : tq_H) (ha : a < H.1) (hg : tq_gr H a 8 0 = some l) (p : Nat) : f_X2_init H.1 a p (hl H [.inl (2, [.null, .null, .null, .null, .null, .null, .long 0, .int 0])]) = some (hl H (fndB H.1 a l p)) := by
  unfold f_X2_init
  rw [st_set (a := 1200) 1200 (H.1 + 1) (by decide) rfl (by simp) rfl, st_set (a := 60) 60 (H.1 + 3) (by decide) rfl (by simp) rfl, st_row (a := 60) 60 (H.1 + 5) (by decide) rfl (by simp) rfl, st_pf (by simp), st_pf (by simp), st_pf (by simp), gr_old ha, hg, Option.bind_some, st_pf (by simp), st_pf (by simp)]
  rfl
theorem st_fnd {α : Type} {G : tq_H → Option α} (hk : k < fs.length) (hN : N = H.1 + (B.length + 1)) (h0 : fs[0]? = some (.ref a)) (h3 : fs[3]? = some (.ref p)) (ha : a < H.1 + (B.length + 1)) (hg : tq_gr (hl H (.inl (10, fs) :: B)) a 8 0 = some l) :
    (tq_let (tq_new (hl H (.inl (10, fs) :: B)) (.inl (2, [.null, .null, .null, .null, .null, .null, .long 0, .int 0]))) fun w13 => (tq_gr w13 H.1 10 0).bind fun k14 => (tq_gr w13 H.1 10 3).bind fun k15 => (f_X2_init (hl H (.inl (10, fs) :: B)).1 k14 k15 w13).bind fun v16 => (tq_pf v16 H.1 10 k (.ref (hl H (.inl (10, fs) :: B)).1)).bind G) =
    G (hl H (.inl (10, fs.set k (.ref N)) :: (B ++ fndB N a l p))) := by
  subst hN
  have e : tq_new (hl H (.inl (10, fs) :: B)) (.inl (2, [.null, .null, .null, .null, .null, .null, .long 0, .int 0])) = hl (hl H (.inl (10, fs) :: B)) [.inl (2, [.null, .null, .null, .null, .null, .null, .long 0, .int 0])] := by rw [hl_new, hl_hl]
  have g0 : tq_gr (hl H (.inl (10, fs) :: (B ++ [.inl (2, [.null, .null, .null, .null, .null, .null, .long 0, .int 0])]))) H.1 10 0 = some a := hl_gr _ _ _ _ _ _ h0
  have g3 : tq_gr (hl H (.inl (10, fs) :: (B ++ [.inl (2, [.null, .null, .null, .null, .null, .null, .long 0, .int 0])]))) H.1 10 3 = some p := hl_gr _ _ _ _ _ _ h3
  rw [tq_let, e, hl_hl, List.cons_append, g0, Option.bind_some, g3, Option.bind_some, ← List.cons_append, ← hl_hl, mk_fnd _ (by rw [hl_1]; exact ha) hg, Option.bind_some, hl_hl, List.cons_append, hl_pf _ _ _ _ _ _ hk, Option.bind_some]
  rfl
end MKS
