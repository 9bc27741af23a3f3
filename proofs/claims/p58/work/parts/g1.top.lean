/-! ===== the claim, out of the law as a function ===== -/
def R_law : String := "TreequeryLaw"
def lw_P (b : Addr) (xs : List Int32) (args : Array Value) (s : State) : Prop := args = #[.ref b] ∧ s.IntsAt b xs ∧ xs.length ≤ 260 ∧ (Jvm.Cond.and given_1 narrow_1).before args s = true
def lw_Q (_ : Array Value) (s : State) (o : Outcome) (t : State) : Prop := o = .returned (some (.int 1)) ∧ Framed s o t [] 600104 7301314
def lw_Z (below : List Frame) (a : Array Value) (s : State) : State → Prop := fun t => ∃ o, t.status = .running ∧ Ended t below o ∧ lw_Q a s o t
/-- the law's own end, with 1 on the stack, nothing written that was there before, its room as the claim has it -/
theorem lw_ret {p : Program} {l : Launch} {e : Env} {s : State} {m : MethodId} {below : List Frame} {meth : Method} {c : Code} {b : Nat} (hx : p.tables.exec = Jvm.exec) (hb : c.code = code) (hr : meth.sig.returnType = ret) (hlocks : meth.locks = false) {pc : Nat} {H : Heap} {ls : Array Slot} (hdg : decode code pc = .ok (.ireturn, 1)) : W p l e room_1 s m #[Value.ref b] below meth c H [] 600104 7301314 (lw_Z below #[Value.ref b] s) (F0 m pc ls [.int 1]) := by
  intro T hT X
  obtain ⟨fs, hret, hrun, hended, hW, hframe⟩ := X.leave (v := some (.int 1)) (hlocks := hlocks) (fun h => by rw [hr] at h; cases h)
  have hmeth' : T.vm.method? m = some meth := X.method'
  refine ⟨T.setFrames fs, ?_, .returned (some (.int 1)), hrun, hended, rfl, ⟨_, rfl⟩, hW, hframe⟩
  jvm_step X.here [X.here.top, hx, hb, hdg, hmeth', hr, ret, narrow_b1]
  (try refine ⟨rfl, ?_⟩); (try refine ⟨rfl, ?_⟩)
  first | (intro acts; rw [hret _ acts rfl rfl rfl]) | rw [hret _ _ rfl rfl rfl]
  exact Steps.refl _
/-- what holds at the law's entry: the machine, the code, the tables' words (any of lw_tbl by 'hts w (by decide +kernel)'), the script of L ints xs at the cell b, what the Statement gives of the start (any of its parts by flat_of_before) -/
def lw_At (p : Program) (s : State) (m : MethodId) (meth : Method) (c : Code) (b L : Nat) (xs : Nat → Int32) : Prop :=
  p.tables.exec = Jvm.exec ∧ c.code = code ∧ meth.sig.returnType = ret ∧ c.maxLocals = 10 ∧ s.vm.findClass R_law = some m.cls ∧ (∀ w ∈ lw_tbl, w.before #[Value.ref b] s = true) ∧ va_X b L xs s s.heap ∧ b < s.heap.size ∧ meth.locks = false ∧ (Jvm.Cond.and given_1 narrow_1).before #[Value.ref b] s = true
theorem W_mono {p : Program} {l : Launch} {e : Env} {R : Room} {s : State} {m : MethodId} {args : Array Value} {below : List Frame} {meth : Method} {c : Code} {H : Heap} {locs : List Loc} {cells slots : Nat} {Q Q' : State → Prop} {g : JFrame} (h : ∀ t, Q t → Q' t) (k : W p l e R s m args below meth c H locs cells slots Q g) : W p l e R s m args below meth c H locs cells slots Q' g := by
  intro T hT X
  obtain ⟨t, a1, b1⟩ := k T hT X
  exact ⟨t, a1, h t b1⟩
/-- the law needs twelve frames of the room's thirteen -/
def tk_room : Room := { frames := 12, cells := 600104, slots := 7301314, locals := 476 }
theorem st_room {p : Program} {l : Launch} {e : Env} {R R' : Room} {s : State} {m : MethodId} {args : Array Value} {below : List Frame} {meth : Method} {c : Code} {T : State} {locs : List Loc} {cells slots : Nat} (hf : R'.frames ≤ R.frames) (hl : R'.locals ≤ R.locals) (hc : R'.cells ≤ R.cells) (hs : R'.slots ≤ R.slots) (X : Stand p l e R s m args below meth c T locs cells slots) : Stand p l e R' s m args below meth c T locs cells slots := by
  obtain ⟨a1, a2, a3, a4, a5, a6, a7, a8, a9, a10, a11, a12, a13, a14⟩ := X
  refine ⟨a1, a2, a3, a4, ?_, a6, a7, a8, a9, a10, a11, a12, a13, a14⟩
  simp only [State.hasRoom, Bool.and_eq_true, decide_eq_true_eq] at a5 ⊢
  obtain ⟨⟨⟨⟨h1, h2, h3, h4, h5, h6⟩, h7⟩, h8⟩, h9⟩ := a5
  exact ⟨⟨⟨⟨by omega, by omega, by omega, by omega, by omega, h6⟩, by omega⟩, by omega⟩, h9⟩
theorem W_room {p : Program} {l : Launch} {e : Env} {R R' : Room} {s : State} {m : MethodId} {args : Array Value} {below : List Frame} {meth : Method} {c : Code} {H : Heap} {locs : List Loc} {cells slots : Nat} {Q : State → Prop} {g : JFrame} (hf : R'.frames ≤ R.frames) (hl : R'.locals ≤ R.locals) (hc : R'.cells ≤ R.cells) (hs : R'.slots ≤ R.slots) (k : W p l e R' s m args below meth c H locs cells slots Q g) : W p l e R s m args below meth c H locs cells slots Q g := by
  intro T hT X
  exact k T hT (st_room hf hl hc hs X)
theorem tq_arr {s : State} {args : Array Value} {ty : FieldType} (h : (Cond.arrayClass ty).before args s = true) (ht : ∀ cA : ClassId, s.vm.findClass ("[" ++ ty.toString) = some cA → va_RA s cA ty) : ∃ cA : ClassId, ArrOfT s cA ty ∧ va_RA s cA ty := by
  obtain ⟨cA, kA, comp, h1, h2, h3⟩ := Cond.arrayClass_spec h
  exact ⟨cA, fun n z => ⟨fun k h => (by cases h), kA, h2, comp, h3⟩, ht cA h1⟩
theorem tq_same {s t : State} {L : List Loc} {k n : Nat} (h : s.sameButNew t L k n) (hL : ∀ z ∈ L, s.heap.size ≤ z.base) : s.sameButNew t [] k n := by
  obtain ⟨h1, h2, h3, h4, h5, h6⟩ := h
  refine ⟨h1, h2, h3, h4, h5, fun a c hc => ?_⟩
  obtain ⟨c', e1, e2, e3, e4⟩ := h6 a c hc
  refine ⟨c', e1, e2, e3, fun i _ => e4 i (fun hm => ?_)⟩
  have := hL _ hm
  have h9 := (Array.getElem?_eq_some_iff.mp hc).1
  exact absurd this (Nat.not_le.mpr h9)
theorem tk_inst0 : Cond.instantiable RX5 1 ∈ tq_G := tq_g (i := 95) (by decide +kernel) rfl
theorem tk_inst1 : Cond.instantiable RX1 7 ∈ tq_G := tq_g (i := 965) (by decide +kernel) rfl
theorem tk_inst2 : Cond.instantiable RX2 8 ∈ tq_G := tq_g (i := 293) (by decide +kernel) rfl
theorem tk_inst3 : Cond.instantiable RX3 13 ∈ tq_G := tq_g (i := 89) (by decide +kernel) rfl
theorem tk_inst4 : Cond.instantiable RX4 10 ∈ tq_G := tq_g (i := 254) (by decide +kernel) rfl
theorem tk_inst5 : Cond.instantiable RX5 1 ∈ tq_G := tq_g (i := 95) (by decide +kernel) rfl
theorem tk_inst6 : Cond.instantiable RX6 11 ∈ tq_G := tq_g (i := 328) (by decide +kernel) rfl
theorem tk_inst7 : Cond.instantiable RX7 1 ∈ tq_G := tq_g (i := 109) (by decide +kernel) rfl
theorem tk_inst8 : Cond.instantiable RX8 11 ∈ tq_G := tq_g (i := 83) (by decide +kernel) rfl
theorem tk_inst9 : Cond.instantiable RX9 12 ∈ tq_G := tq_g (i := 209) (by decide +kernel) rfl
theorem tk_inst10 : Cond.instantiable RX10 19 ∈ tq_G := tq_g (i := 75) (by decide +kernel) rfl
theorem tk_inst11 : Cond.instantiable RX5 1 ∈ tq_G := tq_g (i := 95) (by decide +kernel) rfl
theorem tk_known {s : State} {args : Array Value} (hts : ∀ w ∈ tq_G, w.before args s = true) : ∃ D : va_G, ∀ (k : Nat) (q : vw_C), tq_cl[k]? = some q → u_Kn s q.1 q.2.1 q.2.2 (D.1 k) (D.2 k) := by
  obtain ⟨c0, i0, h0⟩ := u_known (C := RX5) (T := TX5) (N := 1) hts tq_in5 (hts _ tk_inst0)
  obtain ⟨c1, i1, h1⟩ := u_known (C := RX1) (T := TX1) (N := 7) hts tq_in1 (hts _ tk_inst1)
  obtain ⟨c2, i2, h2⟩ := u_known (C := RX2) (T := TX2) (N := 8) hts tq_in2 (hts _ tk_inst2)
  obtain ⟨c3, i3, h3⟩ := u_known (C := RX3) (T := TX3) (N := 13) hts tq_in3 (hts _ tk_inst3)
  obtain ⟨c4, i4, h4⟩ := u_known (C := RX4) (T := TX4) (N := 10) hts tq_in4 (hts _ tk_inst4)
  obtain ⟨c5, i5, h5⟩ := u_known (C := RX5) (T := TX5) (N := 1) hts tq_in5 (hts _ tk_inst5)
  obtain ⟨c6, i6, h6⟩ := u_known (C := RX6) (T := TX6) (N := 11) hts tq_in6 (hts _ tk_inst6)
  obtain ⟨c7, i7, h7⟩ := u_known (C := RX7) (T := TX7) (N := 1) hts tq_in7 (hts _ tk_inst7)
  obtain ⟨c8, i8, h8⟩ := u_known (C := RX8) (T := TX8) (N := 11) hts tq_in8 (hts _ tk_inst8)
  obtain ⟨c9, i9, h9⟩ := u_known (C := RX9) (T := TX9) (N := 12) hts tq_in9 (hts _ tk_inst9)
  obtain ⟨c10, i10, h10⟩ := u_known (C := RX10) (T := TX10) (N := 19) hts tq_in10 (hts _ tk_inst10)
  obtain ⟨c11, i11, h11⟩ := u_known (C := RX5) (T := TX5) (N := 1) hts tq_in5 (hts _ tk_inst11)
  refine ⟨(fun k => if k = 0 then c0 else if k = 1 then c1 else if k = 2 then c2 else if k = 3 then c3 else if k = 4 then c4 else if k = 5 then c5 else if k = 6 then c6 else if k = 7 then c7 else if k = 8 then c8 else if k = 9 then c9 else if k = 10 then c10 else c11, fun k => if k = 0 then i0 else if k = 1 then i1 else if k = 2 then i2 else if k = 3 then i3 else if k = 4 then i4 else if k = 5 then i5 else if k = 6 then i6 else if k = 7 then i7 else if k = 8 then i8 else if k = 9 then i9 else if k = 10 then i10 else i11), ?_⟩
  intro k q hq
  match k, hq with
  | 0, hq => cases hq; exact h0
  | 1, hq => cases hq; exact h1
  | 2, hq => cases hq; exact h2
  | 3, hq => cases hq; exact h3
  | 4, hq => cases hq; exact h4
  | 5, hq => cases hq; exact h5
  | 6, hq => cases hq; exact h6
  | 7, hq => cases hq; exact h7
  | 8, hq => cases hq; exact h8
  | 9, hq => cases hq; exact h9
  | 10, hq => cases hq; exact h10
  | 11, hq => cases hq; exact h11
  | k + 12, hq => simp [tq_cl] at hq
theorem tk_ayI : Cond.arrayClass .int ∈ tq_G := tq_g (i := 107) (by decide +kernel) rfl
theorem tk_ayL : Cond.arrayClass .long ∈ tq_G := tq_g (i := 118) (by decide +kernel) rfl
theorem tk_ayQ : Cond.arrayOver (.object "Treequery$Tree") ∈ lw_tbl := List.mem_of_getElem? (i := 369) (by decide +kernel)
theorem tk_th : Cond.initialized "java/lang/Throwable" ∈ lw_tbl := List.mem_of_getElem? (i := 66) (by decide +kernel)
theorem tk_l1 : Cond.laysStatic Bundle.tN "UNASSIGNED_STACK" Bundle.steD ∈ lw_tbl := List.mem_of_getElem? (i := 633) (by decide +kernel)
theorem tk_l2 : Cond.laysStatic Bundle.tN "SUPPRESSED_SENTINEL" Bundle.listD ∈ lw_tbl := List.mem_of_getElem? (i := 635) (by decide +kernel)
theorem tk_strs : ∀ q ∈ tq_str, Cond.stringRef RX10 q.1 q.2 ∈ lw_tbl ∧ Cond.exactly (.string RX10 q.1) "java/lang/String" ∈ flatC (Jvm.Cond.and given_1 narrow_1) := by decide +kernel
theorem tk_ncs : ∀ q ∈ tq_nc, Cond.not (.castable q.1 q.2) ∈ flatC (Jvm.Cond.and given_1 narrow_1) := by decide +kernel
theorem tk_st1 : Cond.isRef (.static Bundle.tN "UNASSIGNED_STACK" Bundle.steD) ∈ flatC (Jvm.Cond.and given_1 narrow_1) := by decide +kernel
theorem tk_st2 : Cond.isRef (.static Bundle.tN "SUPPRESSED_SENTINEL" Bundle.listD) ∈ flatC (Jvm.Cond.and given_1 narrow_1) := by decide +kernel
theorem tk_flags {l : Launch} (h : l.flags = flags0) : l.stackTraces = false := by
  unfold Launch.stackTraces
  rw [h]
  decide +kernel
/-- the law's entry, out of its function: 'hmain' is what is left to be shown of the functions -/
theorem whole_start {p : Program} {e : Env} {s : State} {m : MethodId} {below : List Frame} {meth : Method} {c : Code} (l : Launch) (hflags : l.flags = flags0) {b L : Nat} {xs : Nat → Int32} (htab : c.exceptionTable.toList = []) (C0 : lw_At p s m meth c b L xs)
    (hmain : ∃ h1 : tq_H, f_L_law L xs (0, fun _ => .inl (0, [])) = some (1, h1)) : W p l e room_1 s m #[Value.ref b] below meth c s.heap [] 0 0 (lw_Z below #[Value.ref b] s) (entryFrame m ([Value.ref b] : List Value).toArray 10) := by
  obtain ⟨hx, hb, hr, hml, hown, hts0, hX, hbl, hlocks, hgv⟩ := C0
  have hts : ∀ w ∈ tq_G, w.before #[Value.ref b] s = true := fun w hw => hts0 w (tq_Gt w hw)
  have hfl := flat_of_before _ hgv
  obtain ⟨D, hKn⟩ := tk_known hts
  obtain ⟨cI, aI, rI⟩ := tq_arr (ty := .int) (hts _ tk_ayI) (fun _ h => h)
  obtain ⟨cL, aL, rL⟩ := tq_arr (ty := .long) (hts _ tk_ayL) (fun _ h => h)
  have hao := hts0 _ tk_ayQ
  obtain ⟨comp, cQ, kQ, q1, q2, q3, q4, q5⟩ := Cond.arrayOver_spec hao
  have aQ : ArrOfT s cQ (.object "Treequery$Tree") := fun n z => ⟨fun k h => (by cases h), kQ, q3, comp, q4⟩
  have rQ : va_RA s cQ (.object "Treequery$Tree") := ⟨kQ, comp, q3, q4, q1, q5⟩
  have hK : va_K D tq_cl (tq_ty (fun k => if k = 0 then cI else if k = 1 then cI else if k = 2 then cL else cQ)) s := by
    refine ⟨hKn, fun k q hk => ?_⟩
    match k, hk with
    | 0, hk => cases hk; exact ⟨aI, rI⟩
    | 1, hk => cases hk; exact ⟨aI, rI⟩
    | 2, hk => cases hk; exact ⟨aL, rL⟩
    | 3, hk => cases hk; exact ⟨aQ, rQ⟩
    | k + 4, hk => simp [tq_ty] at hk
  have hbx : tq_bx s := by
    refine ⟨fun w hw => va_Nw.of (tq_Bo w hw) (hts0 w (List.mem_filter.mp hw).1), fun q hq => ?_, va_AO.of hao, fun q hq => va_Nc.of (hfl _ (tk_ncs q hq))⟩
    obtain ⟨e1, e2⟩ := tk_strs q hq
    obtain ⟨a, c1, cell, k1, z1, -⟩ := Cond.exactly_spec (hfl _ e2)
    exact ⟨a, vk_R.of (hts0 _ e1) z1⟩
  have hz : tq_zq (fun q : Nat => s.heap.size ≤ q) s s.heap :=
    ⟨vx_Zqof (hts0 _ tk_l1) (hts0 _ tk_th) (hfl _ tk_st1) (fun a h => Nat.not_le.mpr h), vx_Zqof (hts0 _ tk_l2) (hts0 _ tk_th) (hfl _ tk_st2) (fun a h => Nat.not_le.mpr h)⟩
  have hP : va_P D tq_cl [] s.heap := fun k q h => by simp at h
  have hD : va_D (fun q : Nat => s.heap.size ≤ q) [] := ⟨fun i j p q h => by simp at h, fun k q h => by simp at h⟩
  have hent := lv_entry ([.ref b]) (n := 10) (Nat.le_of_ble_eq_true rfl)
  rw [lg_entry_eq]
  generalize (lg_sl ([.ref b]) ++ List.replicate (10 - (lg_sl ([.ref b])).length) Slot.unset).toArray = ls at hent ⊢
  obtain ⟨h1, hm⟩ := hmain
  have hW := w_L_law (l := l) (d := 12) (by decide) (b := b) (Q := fun r _ => r = .inl (some (.int 1))) hm (fun _ _ q => q.1)
  have X : tq_cx l (mL_law b L xs) 12 p tk_room s m #[Value.ref b] meth c D (fun k => if k = 0 then cI else if k = 1 then cI else if k = 2 then cL else cQ) (fun q : Nat => s.heap.size ≤ q) 600104 7301314 :=
    ⟨hx, hb, hml, hr, hlocks, hown, hts, hK, rfl, rfl, Nat.le_refl _, Nat.le_refl _, fun q h => h, hz, (fun z => by cases z), htab, hbx, tk_flags hflags, fun q hq => by cases hq; exact ⟨hX, hbl, Nat.not_le.mpr hbl⟩⟩
  refine W_room (R' := tk_room) (by decide) (by decide) (by decide) (by decide) (W_mono ?_ (hW X (ad0 := []) (cells := 0) (slots := 0) (ws := []) ⟨hP, hD, va_S.rf, ⟨rfl, fun k q h => by simp at h⟩, List.prefix_refl _, ⟨_, hent, ⟨⟨rfl, rfl⟩, trivial⟩⟩, trivial⟩ (by decide) (by decide)))
  intro t ht
  obtain ⟨o, b1, b2, b3⟩ := ht
  refine ⟨o, b1, b2, ?_⟩
  rcases b3 with ⟨⟨hq, -⟩, Lc, hF, hLc⟩ | ⟨q, -, E, ce, Lc, ⟨⟨h9, hq, -⟩, -⟩, -⟩
  · rcases hq with ⟨-, h9, hq, -⟩ | ⟨v, w, h9, eo, hq, ws9, -, -, -, -, hv⟩
    · cases hq
    · cases hq
      cases (show w = .int 1 from hv)
      exact ⟨eo, hF.1, hF.2.1, tq_same hF.2.2 hLc⟩
  · cases hq
