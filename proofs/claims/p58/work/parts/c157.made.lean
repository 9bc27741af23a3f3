/-! ===== objects that are made ===== -/
/-- more objects behind those of a world -/
def hl (H : tq_H) (l : List tq_O) : tq_H := (H.1 + l.length, fun k => if k < H.1 then H.2 k else (l[k - H.1]?).getD (H.2 k))
/-- the contents of a world -/
def ctn (h : tq_H) : tc_C :=
  (fun k => match h.2 k with
    | .inr (_, (_, .inl f)) => f
    | _ => fun _ => 0,
   fun k => match h.2 k with
    | .inr (_, (_, .inr (.inl f))) => f
    | _ => fun _ => 0,
   fun k j => match h.2 k with
    | .inl (_, fs) => (match fs[j]? with
      | some (.int x) => x
      | _ => 0)
    | _ => 0,
   fun k j => match h.2 k with
    | .inl (_, fs) => (match fs[j]? with
      | some (.long x) => x
      | _ => 0)
    | _ => 0,
   fun k => match h.2 k with
    | .inr (_, (_, .inr (.inr (.inr (.inr f))))) => f
    | _ => fun _ => none)
section HLS
variable {H h : tq_H} {l l' B : List tq_O} {o : tq_O} {i k n ci : Nat} {fs : List Value} {a x : Int32}
theorem tc_fill_id (F : Nat → Int32) (G : Nat → Int64) : ∀ (fs : List Value) (i : Nat), (∀ j v, fs[j]? = some (.int v) → F (i + j) = v) → (∀ j v, fs[j]? = some (.long v) → G (i + j) = v) → tc_fill F G i fs = fs
  | [], _, _, _ => rfl
  | v :: vs, i, h1, h2 => by
    rw [tc_fill, tc_fill_id F G vs (i + 1) (fun j w hw => by rw [← h1 (j + 1) w hw]; congr 1; omega) (fun j w hw => by rw [← h2 (j + 1) w hw]; congr 1; omega)]
    congr 1
    cases v with
    | int y => rw [show tc_v F G i (.int y) = .int (F i) from rfl, show F i = y from h1 0 y rfl]
    | long y => rw [show tc_v F G i (.long y) = .long (G i) from rfl, show G i = y from h2 0 y rfl]
    | _ => rfl
theorem tc_id (h : tq_H) : tc_mk h (ctn h) = h := by
  obtain ⟨n, f⟩ := h
  unfold tc_mk
  congr 1
  funext k
  show tc_ob (ctn (n, f)) k (f k) = f k
  cases e : f k with
  | inl p =>
    obtain ⟨ci, fs⟩ := p
    show Sum.inl (ci, tc_fill ((ctn (n, f)).2.2.1 k) ((ctn (n, f)).2.2.2.1 k) 0 fs) = _
    rw [tc_fill_id _ _ fs 0 (fun j v hv => by rw [Nat.zero_add]; simp only [ctn, e, hv]) (fun j v hv => by rw [Nat.zero_add]; simp only [ctn, e, hv])]
  | inr p =>
    obtain ⟨t, n', y⟩ := p
    rcases y with y | y | y | y | y <;> simp only [tc_ob, ctn, e]
theorem hl_nil (H : tq_H) : hl H [] = H := by
  obtain ⟨n, f⟩ := H
  unfold hl
  congr 1
  funext k
  simp
theorem hl_1 (H : tq_H) (l : List tq_O) : (hl H l).1 = H.1 + l.length := rfl
theorem hl_old (h : k < H.1) : (hl H l).2 k = H.2 k := if_pos h
theorem hl_at (h : l[i]? = some o) : (hl H l).2 (H.1 + i) = o := by
  show (if H.1 + i < H.1 then _ else _) = _
  rw [if_neg (by omega), show H.1 + i - H.1 = i by omega, h]; rfl
theorem hl_new (H : tq_H) (l : List tq_O) (o : tq_O) : tq_new (hl H l) o = hl H (l ++ [o]) := by
  unfold tq_new hl
  dsimp only
  congr 1
  · rw [List.length_append]; rfl
  · funext k
    by_cases q : k = H.1 + l.length
    · rw [if_pos q, if_neg (by omega), q, show H.1 + l.length - H.1 = l.length by omega]
      simp
    · rw [if_neg q]
      by_cases q2 : k < H.1
      · rw [if_pos q2, if_pos q2]
      · rw [if_neg q2, if_neg q2]
        rcases Nat.lt_or_ge (k - H.1) l.length with w | w
        · rw [List.getElem?_append_left w]
        · rw [List.getElem?_eq_none w, List.getElem?_eq_none (by rw [List.length_append]; show l.length + 1 ≤ _; omega)]
theorem hl_hl (H : tq_H) (l l' : List tq_O) : hl (hl H l) l' = hl H (l ++ l') := by
  unfold hl
  dsimp only
  congr 1
  · rw [List.length_append]; omega
  · funext k
    by_cases q : k < H.1 + l.length
    · rw [if_pos q]
      by_cases q2 : k < H.1
      · rw [if_pos q2, if_pos q2]
      · rw [if_neg q2, if_neg q2, List.getElem?_append_left (by omega)]
    · rw [if_neg q, if_neg (show ¬ k < H.1 by omega), if_neg (show ¬ k < H.1 by omega), List.getElem?_append_right (by omega), show k - (H.1 + l.length) = k - H.1 - l.length by omega, List.getElem?_eq_none (l := l) (show l.length ≤ k - H.1 by omega)]
      rfl
theorem hl_up (H : tq_H) (l : List tq_O) (i : Nat) (o : tq_O) (hi : i < l.length) : tq_up (hl H l) (H.1 + i) o = hl H (l.set i o) := by
  unfold tq_up hl
  dsimp only
  congr 1
  · rw [List.length_set]
  · funext k
    by_cases q : k = H.1 + i
    · rw [if_pos q, if_neg (by omega), q, show H.1 + i - H.1 = i by omega, List.getElem?_set_self hi]; rfl
    · rw [if_neg q]
      by_cases q2 : k < H.1
      · rw [if_pos q2, if_pos q2]
      · rw [if_neg q2, if_neg q2, List.getElem?_set_ne (by omega)]
theorem hl_pf (H : tq_H) (B : List tq_O) (ci : Nat) (fs : List Value) (k : Nat) (v : Value) (hk : k < fs.length) : tq_pf (hl H (.inl (ci, fs) :: B)) H.1 ci k v = some (hl H (.inl (ci, fs.set k v) :: B)) := by
  have e : (hl H (.inl (ci, fs) :: B)).2 H.1 = .inl (ci, fs) := hl_at (i := 0) rfl
  unfold tq_pf
  rw [e]
  show (if ci = ci ∧ k < fs.length then _ else _) = _
  rw [if_pos ⟨rfl, hk⟩]
  exact congrArg some (hl_up H (.inl (ci, fs) :: B) 0 _ (by simp))
theorem hl_gr (H : tq_H) (B : List tq_O) (ci : Nat) (fs : List Value) (k t : Nat) (hk : fs[k]? = some (.ref t)) : tq_gr (hl H (.inl (ci, fs) :: B)) H.1 ci k = some t := by
  have e : (hl H (.inl (ci, fs) :: B)).2 H.1 = .inl (ci, fs) := hl_at (i := 0) rfl
  unfold tq_gr
  rw [e]
  simp only [hk, if_true]
/-- a row, a set, as they are made -/
def rowB (b n : Nat) (x : Int32) : List tq_O := [.inl (5, [.ref (b + 1)]), .inr (0, (n, .inl (fun j => if j < n then x else 0)))]
def setB (b n : Nat) : List tq_O := [.inl (7, [.ref (b + 1)]), .inr (2, (n, .inr (.inl (fun _ => 0))))]
theorem len_nI {n : Nat} (hn : n ≤ 10000) : tq_len (nI n) = some n := by
  unfold tq_len
  rw [if_neg (nI_pos (by omega)), nI_clamp (by omega), if_pos hn]
theorem fill_raw {a n : Nat} {g : Nat → Int32} {h : tq_H} (e : h.2 a = .inr (0, (n, .inl g))) (hn : n < 100000) (x : Int32) : f_J7_fill_53178 a x h = some (tq_up h a (.inr (0, (n, .inl (fun j => if j < n then x else g j))))) := by
  have w := tc_fillI (S := h) (c := ctn h) e hn x
  rw [tc_id] at w
  rw [w]
  have e2 : (ctn h).1 a = g := by simp only [ctn, e]
  rw [← tc_upI e, tc_id, e2]
theorem mk_row (H : tq_H) {n : Nat} (hn : n ≤ 10000) (ha : a = nI n) (x : Int32) : f_X5_init H.1 a x (hl H [.inl (5, [.null])]) = some (hl H (rowB H.1 n x)) := by
  subst ha
  unfold f_X5_init
  rw [tq_let, if_pos (nI_pos' (by omega)), len_nI (by omega), Option.bind_some, tq_let, hl_new]
  have e1 : (hl H [.inl (5, [.null])]).1 = H.1 + 1 := rfl
  rw [e1]
  show (tq_pf (hl H (.inl (5, [.null]) :: [.inr (0, (n, .inl (fun _ => 0)))])) H.1 5 0 (.ref (H.1 + 1))).bind _ = _
  rw [hl_pf _ _ _ _ _ _ (by decide), Option.bind_some, hl_gr _ _ _ _ 0 (H.1 + 1) rfl, Option.bind_some]
  rw [fill_raw (g := fun _ => 0) (hl_at (i := 1) rfl) (by omega), Option.bind_some]
  exact congrArg some (hl_up H _ 1 _ (by simp))
theorem mk_set (H : tq_H) {n : Nat} (hn : n ≤ 10000) (ha : a = nI n) : f_X7_init H.1 a (hl H [.inl (7, [.null])]) = some (hl H (setB H.1 n)) := by
  subst ha
  unfold f_X7_init
  rw [tq_let, if_pos (nI_pos' (by omega)), len_nI (by omega), Option.bind_some, tq_let, hl_new]
  have e1 : (hl H [.inl (7, [.null])]).1 = H.1 + 1 := rfl
  rw [e1]
  show (tq_pf (hl H (.inl (7, [.null]) :: [.inr (2, (n, .inr (.inl (fun _ => 0))))])) H.1 7 0 (.ref (H.1 + 1))).bind _ = _
  rw [hl_pf _ _ _ _ _ _ (by decide), Option.bind_some]
  rfl
theorem st_row {α : Type} {G : tq_H → Option α} (n N : Nat) (hn : n ≤ 10000) (ha : a = nI n) (hk : k < fs.length) (hN : N = H.1 + (B.length + 1)) :
    (tq_let (tq_new (hl H (.inl (ci, fs) :: B)) (.inl (5, [.null]))) fun w1 => (f_X5_init (hl H (.inl (ci, fs) :: B)).1 a x w1).bind fun v2 => (tq_pf v2 H.1 ci k (.ref (hl H (.inl (ci, fs) :: B)).1)).bind G) =
    G (hl H (.inl (ci, fs.set k (.ref N)) :: (B ++ rowB N n x))) := by
  subst hN
  have e : tq_new (hl H (.inl (ci, fs) :: B)) (.inl (5, [.null])) = hl (hl H (.inl (ci, fs) :: B)) [.inl (5, [.null])] := by rw [hl_new, hl_hl]
  rw [tq_let, e, mk_row _ hn ha, Option.bind_some, hl_hl, List.cons_append, hl_pf _ _ _ _ _ _ hk, Option.bind_some]
  rfl
theorem st_set {α : Type} {G : tq_H → Option α} (n N : Nat) (hn : n ≤ 10000) (ha : a = nI n) (hk : k < fs.length) (hN : N = H.1 + (B.length + 1)) :
    (tq_let (tq_new (hl H (.inl (ci, fs) :: B)) (.inl (7, [.null]))) fun w1 => (f_X7_init (hl H (.inl (ci, fs) :: B)).1 a w1).bind fun v2 => (tq_pf v2 H.1 ci k (.ref (hl H (.inl (ci, fs) :: B)).1)).bind G) =
    G (hl H (.inl (ci, fs.set k (.ref N)) :: (B ++ setB N n))) := by
  subst hN
  have e : tq_new (hl H (.inl (ci, fs) :: B)) (.inl (7, [.null])) = hl (hl H (.inl (ci, fs) :: B)) [.inl (7, [.null])] := by rw [hl_new, hl_hl]
  rw [tq_let, e, mk_set _ hn ha, Option.bind_some, hl_hl, List.cons_append, hl_pf _ _ _ _ _ _ hk, Option.bind_some]
  rfl
/-- a part that is made by its own constructor -/
theorem st_sub {α : Type} {G : tq_H → Option α} {I : Nat → tq_H → Option tq_H} {bl : Nat → List tq_O} {o0 : tq_O} (hI : ∀ H : tq_H, I H.1 (hl H [o0]) = some (hl H (bl H.1))) (N : Nat) (hk : k < fs.length) (hN : N = H.1 + (B.length + 1)) :
    (tq_let (tq_new (hl H (.inl (ci, fs) :: B)) o0) fun w1 => (I (hl H (.inl (ci, fs) :: B)).1 w1).bind fun v2 => (tq_pf v2 H.1 ci k (.ref (hl H (.inl (ci, fs) :: B)).1)).bind G) =
    G (hl H (.inl (ci, fs.set k (.ref N)) :: (B ++ bl N))) := by
  subst hN
  have e : tq_new (hl H (.inl (ci, fs) :: B)) o0 = hl (hl H (.inl (ci, fs) :: B)) [o0] := by rw [hl_new, hl_hl]
  rw [tq_let, e, hI, Option.bind_some, hl_hl, List.cons_append, hl_pf _ _ _ _ _ _ hk, Option.bind_some]
  rfl
theorem st_arr {α : Type} {G : tq_H → Option α} {o0 : tq_O} (N : Nat) (hk : k < fs.length) (hN : N = H.1 + (B.length + 1)) :
    (tq_let (tq_new (hl H (.inl (ci, fs) :: B)) o0) fun w1 => (tq_pf w1 H.1 ci k (.ref (hl H (.inl (ci, fs) :: B)).1)).bind G) =
    G (hl H (.inl (ci, fs.set k (.ref N)) :: (B ++ [o0]))) := by
  subst hN
  rw [tq_let, hl_new, List.cons_append, hl_pf _ _ _ _ _ _ hk, Option.bind_some]
  rfl
theorem st_pf {α : Type} {G : tq_H → Option α} {v : Value} (hk : k < fs.length) : (tq_pf (hl H (.inl (ci, fs) :: B)) H.1 ci k v).bind G = G (hl H (.inl (ci, fs.set k v) :: B)) := by
  rw [hl_pf _ _ _ _ _ _ hk, Option.bind_some]
def layB (b : Nat) : List tq_O :=
  .inl (3, [.ref (b + 1), .ref (b + 3), .ref (b + 5), .ref (b + 7), .ref (b + 9), .ref (b + 11), .ref (b + 13), .ref (b + 15), .ref (b + 17), .ref (b + 19), .long 0, .long 0, .int 0]) ::
  (rowB (b + 1) 60 (-1) ++ rowB (b + 3) 60 (-1) ++ rowB (b + 5) 60 (-1) ++ rowB (b + 7) 60 0 ++ rowB (b + 9) 60 (-1) ++ setB (b + 11) 60 ++ setB (b + 13) 60 ++ setB (b + 15) 60 ++ setB (b + 17) 60 ++ setB (b + 19) 14)
theorem mk_lay (H : tq_H) : f_X3_init H.1 (hl H [.inl (3, [.null, .null, .null, .null, .null, .null, .null, .null, .null, .null, .long 0, .long 0, .int 0])]) = some (hl H (layB H.1)) := by
  unfold f_X3_init
  rw [st_row (a := 60) 60 (H.1 + 1) (by decide) rfl (by simp) rfl, st_row (a := 60) 60 (H.1 + 3) (by decide) rfl (by simp) rfl, st_row (a := 60) 60 (H.1 + 5) (by decide) rfl (by simp) rfl, st_row (a := 60) 60 (H.1 + 7) (by decide) rfl (by simp) rfl, st_row (a := 60) 60 (H.1 + 9) (by decide) rfl (by simp) rfl, st_set (a := 60) 60 (H.1 + 11) (by decide) rfl (by simp) rfl, st_set (a := 60) 60 (H.1 + 13) (by decide) rfl (by simp) rfl, st_set (a := 60) 60 (H.1 + 15) (by decide) rfl (by simp) rfl, st_set (a := 60) 60 (H.1 + 17) (by decide) rfl (by simp) rfl, st_set (a := 14) 14 (H.1 + 19) (by decide) rfl (by simp) rfl, st_pf (by simp), st_pf (by simp), st_pf (by simp)]
  rfl
def treeB (b : Nat) : List tq_O :=
  .inl (8, [.ref (b + 1), .ref (b + 22), .ref (b + 24), .ref (b + 26), .ref (b + 28), .ref (b + 30), .ref (b + 32), .ref (b + 34), .ref (b + 36), .ref (b + 38), .int 0]) ::
  (layB (b + 1) ++ rowB (b + 22) 60 (-1) ++ rowB (b + 24) 60 (-1) ++ rowB (b + 26) 60 (-1) ++ rowB (b + 28) 60 (-1) ++ rowB (b + 30) 60 (-1) ++ rowB (b + 32) 60 (-1) ++ rowB (b + 34) 60 (-1) ++ rowB (b + 36) 60 (-1) ++ rowB (b + 38) 60 (-1))
theorem mk_tree (H : tq_H) : f_X8_init H.1 (hl H [.inl (8, [.null, .null, .null, .null, .null, .null, .null, .null, .null, .null, .int 0])]) = some (hl H (treeB H.1)) := by
  unfold f_X8_init
  rw [st_sub mk_lay (H.1 + 1) (by simp) rfl, st_row (a := 60) 60 (H.1 + 22) (by decide) rfl (by simp) rfl, st_row (a := 60) 60 (H.1 + 24) (by decide) rfl (by simp) rfl, st_row (a := 60) 60 (H.1 + 26) (by decide) rfl (by simp) rfl, st_row (a := 60) 60 (H.1 + 28) (by decide) rfl (by simp) rfl, st_row (a := 60) 60 (H.1 + 30) (by decide) rfl (by simp) rfl, st_row (a := 60) 60 (H.1 + 32) (by decide) rfl (by simp) rfl, st_row (a := 60) 60 (H.1 + 34) (by decide) rfl (by simp) rfl, st_row (a := 60) 60 (H.1 + 36) (by decide) rfl (by simp) rfl, st_row (a := 60) 60 (H.1 + 38) (by decide) rfl (by simp) rfl, st_pf (by simp)]
  rfl
end HLS
