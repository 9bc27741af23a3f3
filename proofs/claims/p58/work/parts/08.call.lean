/-! ===== answers, throws, new things, calls ===== -/
section TQ4
variable {l : Launch} {M : tq_M} {d bc bs : Nat} {Q : tq_R → tq_H → Prop} {pc : Nat} {L : List (Nat × Value)} {S : List Value} {h : tq_H}
theorem tq_endok {D : va_G} {cA : Nat → ClassId} {A : Nat → Prop} {ad0 : List Nat} {s : State} {H : Heap} {locs : List Loc} {ws : va_W} {ls : Array Slot} {S' : List Value} {nL : Nat} (Y : tq_dy nL D cA A ad0 s.heap h L S H locs ws ls S') {t : State} (ht : t.heap = H) : tq_end D cA A ad0 h t ∧ va_F A s t :=
  ⟨⟨ws, by rw [ht]; exact Y.1, Y.2.1, Y.2.2.2.1, Y.2.2.2.2.1⟩, Y.2.2.1.F ht⟩
theorem tq_iret (hd : decode M.2.1 pc = .ok (.ireturn, 1)) (hr : M.2.2.2.1 = some .int) {v : Int32} (q : Q (.inl (some (.int v))) h) : tq_W l M d bc bs Q pc L [.int v] h := by
  intro p e R s m args below meth c D cA A ad0 mc ms X H locs cells slots ws ls S' Y hc hs
  obtain ⟨_, rfl, Y1⟩ := tq_popI Y
  cases List.length_eq_zero_iff.mp (tq_al.len Y1.2.2.2.2.2.2).symm
  refine vx_ret (W.widen (k := mc) (n := ms) (by omega) (by omega) ?_)
  exact W.iret X.1 X.2.1 (X.2.2.2.1.trans hr) (fun t ht hW => ⟨Or.inr ⟨.int v, .int v, h, rfl, q, ws, by rw [ht]; exact Y.1, Y.2.1, Y.2.2.2.1, Y.2.2.2.2.1, rfl⟩, Y.2.2.1.F ht⟩) Y.2.2.1.2.2 hd X.2.2.2.2.1
theorem tq_zret (hd : decode M.2.1 pc = .ok (.ireturn, 1)) (hr : M.2.2.2.1 = some .boolean) {v : Int32} (hv : v = 0 ∨ v = 1) (q : Q (.inl (some (.int v))) h) : tq_W l M d bc bs Q pc L [.int v] h := by
  intro p e R s m args below meth c D cA A ad0 mc ms X H locs cells slots ws ls S' Y hc hs
  obtain ⟨_, rfl, Y1⟩ := tq_popI Y
  cases List.length_eq_zero_iff.mp (tq_al.len Y1.2.2.2.2.2.2).symm
  refine vx_ret (W.widen (k := mc) (n := ms) (by omega) (by omega) ?_)
  exact W.zret X.1 X.2.1 (X.2.2.2.1.trans hr) (by rcases hv with rfl | rfl <;> decide +kernel) (fun t ht hW => ⟨Or.inr ⟨.int v, .int v, h, rfl, q, ws, by rw [ht]; exact Y.1, Y.2.1, Y.2.2.2.1, Y.2.2.2.2.1, rfl⟩, Y.2.2.1.F ht⟩) Y.2.2.1.2.2 hd X.2.2.2.2.1
theorem tq_lret (hd : decode M.2.1 pc = .ok (.lreturn, 1)) (hr : M.2.2.2.1 = some .long) {v : Int64} (q : Q (.inl (some (.long v))) h) : tq_W l M d bc bs Q pc L [.long v] h := by
  intro p e R s m args below meth c D cA A ad0 mc ms X H locs cells slots ws ls S' Y hc hs
  obtain ⟨_, rfl, Y1⟩ := tq_popL Y
  cases List.length_eq_zero_iff.mp (tq_al.len Y1.2.2.2.2.2.2).symm
  refine vx_ret (W.widen (k := mc) (n := ms) (by omega) (by omega) ?_)
  exact W.lret X.1 X.2.1 (X.2.2.2.1.trans hr) (fun t ht hW => ⟨Or.inr ⟨.long v, .long v, h, rfl, q, ws, by rw [ht]; exact Y.1, Y.2.1, Y.2.2.2.1, Y.2.2.2.2.1, rfl⟩, Y.2.2.1.F ht⟩) Y.2.2.1.2.2 hd X.2.2.2.2.1
theorem tq_vret (hd : decode M.2.1 pc = .ok (.return_, 1)) (hr : M.2.2.2.1 = none) (q : Q (.inl none) h) : tq_W l M d bc bs Q pc L [] h := by
  intro p e R s m args below meth c D cA A ad0 mc ms X H locs cells slots ws ls S' Y hc hs
  cases List.length_eq_zero_iff.mp (tq_al.len Y.2.2.2.2.2.2).symm
  refine vx_ret (W.widen (k := mc) (n := ms) (by omega) (by omega) ?_)
  exact W.vret X.1 X.2.1 (X.2.2.2.1.trans hr) (fun t ht hW => ⟨Or.inl ⟨rfl, h, q, (tq_endok Y ht).1⟩, Y.2.2.1.F ht⟩) Y.2.2.1.2.2 hd X.2.2.2.2.1
theorem tq_aret (hd : decode M.2.1 pc = .ok (.areturn, 1)) {C : String} (hr : M.2.2.2.1 = some (.object C)) {k : Nat} (q : Q (.inl (some (.ref k))) h) : tq_W l M d bc bs Q pc L [.ref k] h := by
  intro p e R s m args below meth c D cA A ad0 mc ms X H locs cells slots ws ls S' Y hc hs
  obtain ⟨w, S1, rfl, ⟨a, h3, rfl⟩, Y1⟩ := tq_pop Y
  cases List.length_eq_zero_iff.mp (tq_al.len Y1.2.2.2.2.2.2).symm
  refine vx_ret (W.widen (k := mc) (n := ms) (by omega) (by omega) ?_)
  exact W.aret X.1 X.2.1 (X.2.2.2.1.trans hr) (Or.inl ⟨C, rfl⟩) (Or.inr ⟨a, rfl⟩) (fun t ht hW => ⟨Or.inr ⟨.ref k, .ref a, h, rfl, q, ws, by rw [ht]; exact Y.1, Y.2.1, Y.2.2.2.1, Y.2.2.2.2.1, a, h3, rfl⟩, Y.2.2.1.F ht⟩) Y.2.2.1.2.2 hd X.2.2.2.2.1
/-- an exception that goes on to the caller -/
theorem tq_out {E : String} (ht : M.2.2.2.2.2.1 = []) (q : Q (.inr E) h) : tq_X l M d bc bs Q E pc L h := by
  intro p e R s m args below meth c D cA A ad0 mc ms X H locs cells slots ws ls S' ce a Y hc hs h1 h2 h3
  refine vx_out ?_ X.2.2.2.2.1 h1 h2 h3 (fun t ht2 _ => ⟨⟨h, q, (tq_endok Y ht2).1⟩, (tq_endok Y ht2).2⟩) Y.2.2.1.2.2 (by omega) (by omega)
  intro x hx
  rw [X.2.2.2.2.2.2.2.2.2.2.2.2.2.2.2.1, ht] at hx
  cases hx
/-- a new object of a class -/
theorem tq_newo {ci : Nat} {C : String} {T : u_T} {N : Nat} {ty : Nat → FieldType} (hC : tq_cok ci C T N ty) {idx : Nat} (hd : decode M.2.1 pc = .ok (.new idx, 3)) (hw : Cond.classLink M.1 idx C ∈ tq_G) (hi : Cond.instantiable C N ∈ tq_G) (hn : Cond.initialized C ∈ tq_G) {fs : List Value} (hfs : ∀ j, j < N → defaultValue (ty j) = vp_V fs j) (hfr : ∀ ad, tq_al (tq_vr ad) fs fs) {bc' bs' : Nat} (hc : 1 + bc' = bc) (hs : N + bs' = bs)
    (k : tq_W l M d bc' bs' Q (pc + 3) L (.ref h.1 :: S) (tq_new h (.inl (ci, fs)))) : tq_W l M d bc bs Q pc L S h := by
  subst hc; subst hs
  intro p e R s m args below meth c D cA A ad0 mc ms X H locs cells slots ws ls S' Y hc hs
  have hcr := X.2.2.2.2.2.2.2.2.2.2.1
  have hsr := X.2.2.2.2.2.2.2.2.2.2.2.1
  exact va_new (D := D) X.1 X.2.1 X.2.2.2.2.2.2.1 hC.2.1 ty hC.2.2.1 X.2.2.2.2.2.1 (X.2.2.2.2.2.2.1 _ hw) (X.2.2.2.2.2.2.1 _ hi) (X.2.2.2.2.2.2.1 _ hn) X.2.2.2.2.2.2.2.1 Y.1 Y.2.1 Y.2.2.1 X.2.2.2.2.2.2.2.2.2.2.2.2.1 hC.1 hfs (by omega) (by omega) hd
    (fun q H1 P1 D1 S1 => k X (tq_dyn Y ⟨_, rfl, hfr _⟩ P1 D1 S1) (by omega) (by omega))
theorem tq_cls {s : State} {D : va_G} {cA : Nat → ClassId} {cB : ClassId} {ty : FieldType} {t : Nat} (hK : va_K D tq_cl (tq_ty cA ++ [(cB, ty)]) s) (ht : (tq_ty cA)[t]? = some (cA t, ty)) : cB = cA t := by
  have h1 := (hK.2 4 (cB, ty) rfl).2
  have h2 := (hK.2 t (cA t, ty) (by rw [List.getElem?_append_left (List.getElem?_eq_some_iff.mp ht).1]; exact ht)).2
  cases ty with
  | object C =>
    obtain ⟨k1, c1, -, -, -, e1⟩ := h1
    obtain ⟨k2, c2, -, -, -, e2⟩ := h2
    exact Option.some.inj (e1.symm.trans e2)
  | _ => exact Option.some.inj ((show s.vm.findClass _ = some cB from h1).symm.trans (show s.vm.findClass _ = some _ from h2))
theorem tq_newi (hd : decode M.2.1 pc = .ok (.newarray .int, 2)) (hw : Cond.arrayClass .int ∈ tq_G) {n : Int32} {N : Nat} (hn : ¬ n < 0) (hN : n.toNatClampNeg = N) (hb : N ≤ 100000000) {bc' bs' : Nat} (hc : 1 + bc' = bc) (hs : N + bs' = bs)
    (k : tq_W l M d bc' bs' Q (pc + 2) L (.ref h.1 :: S) (tq_new h (.inr (0, (N, .inl (fun _ => 0)))))) : tq_W l M d bc bs Q pc L (.int n :: S) h := by
  subst hc; subst hs
  intro p e R s m args below meth c D cA A ad0 mc ms X H locs cells slots ws ls S' Y hc hs
  obtain ⟨_, rfl, Y1⟩ := tq_popI Y
  have hcr := X.2.2.2.2.2.2.2.2.2.2.1
  have hsr := X.2.2.2.2.2.2.2.2.2.2.2.1
  refine va_newa (D := D) (atype := .int) (ty := .int) (a0 := (N, .inl (fun _ => 0))) X.1 X.2.1 (X.2.2.2.2.2.2.1 _ hw) rfl X.2.2.2.2.2.2.2.1 Y.1 Y.2.1 Y.2.2.1 X.2.2.2.2.2.2.2.2.2.2.2.2.1 (fun _ => rfl) hn hN (by show N * 4 ≤ _; omega) (by omega) (by omega) hd (fun q cB H1 K1 P1 D1 S1 => ?_)
  cases tq_cls (t := 0) K1 rfl
  exact k X (tq_dyn Y1 ⟨_, rfl, rfl⟩ P1 D1 S1) (by omega) (by omega)
theorem tq_newl (hd : decode M.2.1 pc = .ok (.newarray .long, 2)) (hw : Cond.arrayClass .long ∈ tq_G) {n : Int32} {N : Nat} (hn : ¬ n < 0) (hN : n.toNatClampNeg = N) (hb : N ≤ 60000000) {bc' bs' : Nat} (hc : 1 + bc' = bc) (hs : N + bs' = bs)
    (k : tq_W l M d bc' bs' Q (pc + 2) L (.ref h.1 :: S) (tq_new h (.inr (2, (N, .inr (.inl (fun _ => 0))))))) : tq_W l M d bc bs Q pc L (.int n :: S) h := by
  subst hc; subst hs
  intro p e R s m args below meth c D cA A ad0 mc ms X H locs cells slots ws ls S' Y hc hs
  obtain ⟨_, rfl, Y1⟩ := tq_popI Y
  have hcr := X.2.2.2.2.2.2.2.2.2.2.1
  have hsr := X.2.2.2.2.2.2.2.2.2.2.2.1
  refine va_newa (D := D) (atype := .long) (ty := .long) (a0 := (N, .inr (.inl (fun _ => 0)))) X.1 X.2.1 (X.2.2.2.2.2.2.1 _ hw) rfl X.2.2.2.2.2.2.2.1 Y.1 Y.2.1 Y.2.2.1 X.2.2.2.2.2.2.2.2.2.2.2.2.1 (fun _ => rfl) hn hN (by show N * 8 ≤ _; omega) (by omega) (by omega) hd (fun q cB H1 K1 P1 D1 S1 => ?_)
  cases tq_cls (t := 2) K1 rfl
  exact k X (tq_dyn Y1 ⟨_, rfl, rfl⟩ P1 D1 S1) (by omega) (by omega)
theorem tq_newq (idx : Nat) (hd : decode M.2.1 pc = .ok (.anewarray idx, 3)) (hw : Cond.classLink M.1 idx "Treequery$Tree" ∈ tq_G) {n : Int32} {N : Nat} (hn : ¬ n < 0) (hN : n.toNatClampNeg = N) (hb : N ≤ 100000000) {bc' bs' : Nat} (hc : 1 + bc' = bc) (hs : N + bs' = bs)
    (k : tq_W l M d bc' bs' Q (pc + 3) L (.ref h.1 :: S) (tq_new h (.inr (3, (N, .inr (.inr (.inr (.inr (fun _ => none))))))))) : tq_W l M d bc bs Q pc L (.int n :: S) h := by
  subst hc; subst hs
  intro p e R s m args below meth c D cA A ad0 mc ms X H locs cells slots ws ls S' Y hc hs
  obtain ⟨_, rfl, Y1⟩ := tq_popI Y
  have hcr := X.2.2.2.2.2.2.2.2.2.2.1
  have hsr := X.2.2.2.2.2.2.2.2.2.2.2.1
  refine va_newq (D := D) X.1 X.2.1 X.2.2.2.2.2.1 (X.2.2.2.2.2.2.1 _ hw) X.2.2.2.2.2.2.2.2.2.2.2.2.2.2.2.2.1.2.2.1 X.2.2.2.2.2.2.2.1 Y.1 Y.2.1 Y.2.2.1 X.2.2.2.2.2.2.2.2.2.2.2.2.1 hn hN (by omega) (by omega) (by omega) hd (fun q cB H1 K1 P1 D1 S1 => ?_)
  cases tq_cls (t := 3) K1 rfl
  exact k X (tq_dyn Y1 ⟨_, rfl, _, rfl, fun j => ⟨fun _ => rfl, fun i z => by cases z⟩⟩ P1 D1 S1) (by omega) (by omega)
theorem tq_objinit {idx : Nat} (hd : decode M.2.1 pc = .ok (.invokespecial idx, 3)) (hw : Cond.methodLink M.1 idx Lib.objectInit ∈ tq_G) (hi : Cond.instanceMethod Lib.objectInit ∈ tq_G) (hcd : Cond.code Lib.objectInit ⟨#[0xb1]⟩ 1 none ∈ tq_G) {q : Nat} (hdp : 1 ≤ d) (hS : (S.map fun v => v.category).sum ≤ 8) (k : tq_W l M d bc bs Q (pc + 3) L S h) : tq_W l M d bc bs Q pc L (.ref q :: S) h := by
  intro p e R s m args below meth c D cA A ad0 mc ms X H locs cells slots ws ls S' Y hc hs
  obtain ⟨a, x, S1, rfl, e1, e2, Y1⟩ := tq_popR Y
  have hcat : (S1.map fun v => v.category) = (S.map fun v => v.category) := by
    have := Y1.2.2.2.2.2.2
    clear hd hS k Y Y1 e1 e2
    induction S generalizing S1 with
    | nil => cases S1 with
      | nil => rfl
      | cons => exact this.elim
    | cons v S ih => cases S1 with
      | nil => exact this.elim
      | cons w S1 => simp only [List.map_cons]; rw [this.1.cat, ih _ this.2]
  have hls : ls.size = c.maxLocals := by
    obtain ⟨L', h1, -⟩ := Y.2.2.2.2.2.1
    rw [h1.1, X.2.2.1]
  refine W.objInit (g := F0 m pc ls (.ref a :: S1)) (rest := S1) X.1 X.2.1 X.2.2.2.2.2.1 (X.2.2.2.2.2.2.1 _ hw) (X.2.2.2.2.2.2.1 _ hi) (X.2.2.2.2.2.2.1 _ hcd) rfl hls rfl hd (by rw [X.2.2.2.2.2.2.2.2.1]; exact hdp) ?_ (k X Y1 hc hs)
  rw [hcat, X.2.2.2.2.2.2.2.2.2.1]
  show 2 * 0 + _ + 12 ≤ _
  omega
end TQ4
