/-! ===== methods with handlers, and the script ===== -/
section TQ11
variable {l : Launch} {M : tq_M} {d bc bs : Nat} {Q : tq_R → tq_H → Prop} {pc : Nat} {L : List (Nat × Value)} {S : List Value} {h : tq_H}
/-- an exception that a row of the method's own table takes -/
theorem tq_catch {E name : String} (pre : List ExceptionTableEntry) (x : ExceptionTableEntry) (suf : List ExceptionTableEntry) (hM : tableOf M.2.2.2.2.2.1 = pre ++ x :: suf) (hpass : ∀ z ∈ pre, z.catchType ≠ 0 ∧ ∃ nm : String, Cond.classLink M.1 z.catchType nm ∈ tq_G ∧ (E, nm) ∈ tq_nc) (hx : covers x pc = true) (h0 : x.catchType ≠ 0)
    (hlink : Cond.classLink M.1 x.catchType name ∈ tq_G) (hcast : Cond.castable E name ∈ tq_B) (k : tq_W l M d bc bs Q x.handlerPc L [.float 0] h) : tq_X l M d bc bs Q E pc L h := by
  intro p e R s m args below meth c D cA A ad0 mc ms X H locs cells slots ws ls S' ce a Y hc hs h1 h2 h3
  have hts := X.2.2.2.2.2.2.1
  have hb := X.2.2.2.2.2.2.2.2.2.2.2.2.2.2.2.2.1
  refine vx_catch (own := M.1) (name := name) (E := E) X.2.2.2.2.2.1 pre x suf (X.2.2.2.2.2.2.2.2.2.2.2.2.2.2.2.1.trans hM) (fun z hz => ?_) hx h0 (hts _ hlink) (va_Nw.use rfl (hb.1 _ hcast)) h1 h2 h3 ?_
  · obtain ⟨z0, nm, z1, z2⟩ := hpass z hz
    exact Or.inr ⟨z0, nm, hts _ z1, hb.2.2.2 _ z2⟩
  · exact k X (tq_psh Y ⟨a, rfl⟩) hc hs
/-- more room than is wanted -/
theorem tq_more {bc2 bs2 : Nat} (h1 : bc ≤ bc2) (h2 : bs ≤ bs2) (k : tq_W l M d bc bs Q pc L S h) : tq_W l M d bc2 bs2 Q pc L S h := by
  intro p e R s m args below meth c D cA A ad0 mc ms X H locs cells slots ws ls S' Y hc hs
  exact k X Y (by omega) (by omega)
/-- the script: its cells -/
def tq_sx (n : Nat) (xs : Nat → Int32) (i : Int32) : Option Int32 := if i < 0 ∨ n ≤ i.toNatClampNeg then none else some (xs i.toNatClampNeg)
theorem tq_xload {n : Fin 4} (hd : decode M.2.1 pc = .ok (.aload_n n, 1)) {b : Nat} (hl : L.lookup (n : Nat) = some (.retAddr b)) (k : tq_W l M d bc bs Q (pc + 1) L (.retAddr b :: S) h) : tq_W l M d bc bs Q pc L S h := by
  intro p e R s m args below meth c D cA A ad0 mc ms X H locs cells slots ws ls S' Y hc hs
  obtain ⟨w, h1, h2⟩ := tq_loc Y hl
  cases (show w = .ref b from h2)
  exact lv_aload_n X.1 X.2.1 hd rfl h1 (k X (tq_psh Y rfl) hc hs)
theorem tq_xlen (hd : decode M.2.1 pc = .ok (.arraylength, 1)) {b n : Nat} {xs : Nat → Int32} (hM : M.2.2.2.2.2.2 = some (b, n, xs)) (k : tq_W l M d bc bs Q (pc + 1) L (.int (Int32.ofNat n) :: S) h) : tq_W l M d bc bs Q pc L (.retAddr b :: S) h := by
  intro p e R s m args below meth c D cA A ad0 mc ms X H locs cells slots ws ls S' Y hc hs
  obtain ⟨v', S1, rfl, hv, Y1⟩ := tq_pop Y
  cases (show v' = .ref b from hv)
  obtain ⟨x1, x2, x3⟩ := X.2.2.2.2.2.2.2.2.2.2.2.2.2.2.2.2.2.2 _ hM
  exact va_slen X.1 X.2.1 x1 x2 x3 Y.2.2.1 hd (k X (tq_psh Y1 rfl) hc hs)
theorem tq_xld (hd : decode M.2.1 pc = .ok (.iaload, 1)) {b n : Nat} {xs : Nat → Int32} (hM : M.2.2.2.2.2.2 = some (b, n, xs)) {i x : Int32} (e : tq_sx n xs i = some x) (k : tq_W l M d bc bs Q (pc + 1) L (.int x :: S) h) : tq_W l M d bc bs Q pc L (.int i :: .retAddr b :: S) h := by
  unfold tq_sx at e
  split at e
  · cases e
  · rename_i hi
    cases e
    intro p e R s m args below meth c D cA A ad0 mc ms X H locs cells slots ws ls S' Y hc hs
    obtain ⟨_, rfl, Y0⟩ := tq_popI Y
    obtain ⟨v', S1, rfl, hv, Y1⟩ := tq_pop Y0
    cases (show v' = .ref b from hv)
    obtain ⟨x1, x2, x3⟩ := X.2.2.2.2.2.2.2.2.2.2.2.2.2.2.2.2.2.2 _ hM
    exact va_sld X.1 X.2.1 x1 x2 x3 Y.2.2.1 hi hd (k X (tq_psh Y1 rfl) hc hs)
end TQ11
/-- a contract of a method with handlers -/
def tq_CW (l : Launch) (y : MethodName) (cc : ByteArray) (nL : Nat) (ret : Option FieldType) (hh : List (Nat × Nat × Nat × Nat)) (d bc bs : Nat) (as : List Value) (h : tq_H) (Q : tq_R → tq_H → Prop) : Prop :=
  l.stackTraces = false → ∀ (D : va_G) (cA : Nat → ClassId) (ws : va_W) (as' : List Value) (sz : Nat), tq_w cA h ws → tq_al (tq_vr (tq_ad ws)) as as' →
    vx_Met l y (Cond.codeWith y cc nL ret hh :: tq_G) (tq_rm d bc bs) (tq_Pc D cA ws as' sz) (tq_Qc D cA (va_A ws sz) (tq_ad ws) Q) (tq_XC D cA (va_A ws sz) (tq_ad ws) Q) bc bs (va_A ws sz)
theorem tq_bodyW {l : Launch} {y : MethodName} {cc : ByteArray} {nL : Nat} {ret : Option FieldType} {hh : List (Nat × Nat × Nat × Nat)} {d bc bs : Nat} {as : List Value} {h : tq_H} {Q : tq_R → tq_H → Prop} (hy : plainName y.cls = true) (hlen : (lg_sl as).length ≤ nL)
    (k : tq_W l (y.cls, cc, nL, ret, false, hh, none) d bc bs Q 0 (lv_args 0 as) [] h) : tq_CW l y cc nL ret hh d bc bs as h Q := by
  intro hl D cA ws as' sz hw hal
  refine vx_ofWH (ws' := tq_G) (hh := hh) hy rfl ?_
  intro p e s m args below meth c s₁ B hml hv
  obtain ⟨rfl, hsz, hP, hK, hD0, hz, hbx⟩ := hv
  have hts : ∀ w ∈ tq_G, w.before as'.toArray s = true := fun w hw2 => atoms_spec (ws := Cond.codeWith y cc nL ret hh :: tq_G) B.pre w (List.mem_cons_of_mem _ hw2)
  have hown : s.vm.findClass y.cls = some m.cls := findClass_of_methodNamed B.named
  have htab := vx_table (x := y) B (atoms_spec (ws := Cond.codeWith y cc nL ret hh :: tq_G) B.pre _ List.mem_cons_self)
  subst hsz
  have hD := hD0.self (sz := s.heap.size)
  have hent := lv_entry as' (n := nL) (by rw [← tq_sl_len hal]; exact hlen)
  rw [lg_entry_eq]
  generalize (lg_sl as' ++ List.replicate (nL - (lg_sl as').length) Slot.unset).toArray = ls at hent ⊢
  have X : tq_cx l (y.cls, cc, nL, ret, false, hh, none) d p (headSpec (Cond.codeWith y cc nL ret hh :: tq_G) (tq_rm d bc bs)).room s m as'.toArray meth c D cA (va_A ws s.heap.size) bc bs :=
    ⟨B.exec, B.bytes, hml, B.returns, B.notSynchronized, hown, hts, hK, rfl, rfl, Nat.le_refl _, Nat.le_refl _, fun q hq => Or.inr hq, hz, (fun hbt => by cases hbt), htab, hbx, hl, fun q hq => by cases hq⟩
  exact k X (cells := 0) (slots := 0) ⟨hP, hD, va_S.rf, hw, List.prefix_refl _, ⟨_, hent, tq_al_args 0 hal⟩, trivial⟩ (by omega) (by omega)
section TQ12
variable {l : Launch} {M : tq_M} {d bc bs : Nat} {Q : tq_R → tq_H → Prop} {pc : Nat} {L : List (Nat × Value)} {S : List Value} {h : tq_H}
/-- a call of a class's own method with handlers, which throws nothing -/
theorem tq_calSW {y : MethodName} {cc : ByteArray} {nL : Nat} {ret : Option FieldType} {hh : List (Nat × Nat × Nat × Nat)} {n idx : Nat} (hy1 : Cond.codeWith y cc nL ret hh ∈ tq_G) (hy2 : Cond.initialized y.cls ∈ tq_G) (hy3 : y.cls ≠ "java/lang/invoke/MethodHandle" ∧ y.cls ≠ "java/lang/invoke/VarHandle") (hy4 : (parseMethodDescriptor y.desc).map (fun q => q.parameters.length) = some n) (hy5 : nL ≤ 19)
    (hv : Cond.static y ∈ tq_G) (hl : Cond.methodLink M.1 idx y ∈ tq_G) (hd : decode M.2.1 pc = .ok (.invokestatic idx, 3)) (as : List Value) (hn : as.length = n) (hS : (S.map fun v => v.category).sum ≤ 8)
    {d1 b1 s1 bc' bs' : Nat} (hd1 : d1 + 1 ≤ d) (hb : b1 + bc' = bc) (hs1 : s1 + bs' = bs) {Q1 : tq_R → tq_H → Prop} (hC : tq_CW l y cc nL ret hh d1 b1 s1 as h Q1)
    (hx : ∀ E h1, ¬ Q1 (.inr E) h1) (kk : ∀ v h1, Q1 (.inl v) h1 → tq_W l M d bc' bs' Q (pc + 3) L (v.toList ++ S) h1) : tq_W l M d bc bs Q pc L (as.reverse ++ S) h := by
  subst hb; subst hs1
  intro p e R s m args below meth c D cA A ad0 mc ms X H locs cells slots ws ls S' Y hc hs
  obtain ⟨R1, S1, rfl, r1, r3⟩ := tq_al.cut Y.2.2.2.2.2.2
  have Y1 : tq_dy M.2.2.1 D cA A ad0 s.heap h L S H locs ws ls S1 := ⟨Y.1, Y.2.1, Y.2.2.1, Y.2.2.2.1, Y.2.2.2.2.1, Y.2.2.2.2.2.1, r3⟩
  have hal : tq_al (tq_vr (tq_ad ws)) as R1.reverse := by
    have := r1.rev
    rwa [List.reverse_reverse] at this
  have hM := tq_met (hC X.2.2.2.2.2.2.2.2.2.2.2.2.2.2.2.2.2.1 D cA ws R1.reverse H.size Y.2.2.2.1 hal) (fun E st t z => by obtain ⟨⟨h1, z, -⟩, -⟩ := z; exact hx _ _ z)
  have hts := X.2.2.2.2.2.2.1
  have hcsw : vx_CSW R s args M.1 idx y cc nL ret hh (Cond.codeWith y cc nL ret hh :: tq_G) (tq_rm d1 b1 s1) b1 s1 n := by
    refine ⟨⟨rfl, rfl, by rw [X.2.2.2.2.2.2.2.2.1]; exact hd1, ?_, fun w hw a' U hW => ?_, List.mem_cons_self⟩, hts _ hy1, hts _ hy2, hy3, fun sig hsig => ?_, hts _ hl, hts _ hv⟩
    · rw [X.2.2.2.2.2.2.2.2.2.1]
      show 8 + (nL + 11) + (38 * d1 + 20) ≤ _
      omega
    · have hw2 : w ∈ tq_G := by
        rcases List.mem_cons.mp hw with rfl | h
        · exact hy1
        · exact h
      exact word_at hW (good_of_word (tq_Gg w hw2)) (hts w hw2)
    · rw [hsig] at hy4
      exact (Option.some.inj hy4).symm
  refine tq_ran X Y1 (tq_vrun (vx_runSW (hh := hh) (g := F0 m pc ls (R1 ++ S1)) (As := R1.reverse) (rest := S1) (Ts := tq_G) (n := n) ⟨X.1, X.2.1, X.2.2.1, X.2.2.2.2.2.1, hts⟩ hM hcsw ⟨tq_blind, ?_⟩ rfl ?_ ?_ ?_ ?_ hd ⟨?_, ?_⟩)) (by omega) (by omega) (fun E h1 z => (hx E h1 z).elim) kk
  · exact tq_pcok X Y R1.reverse
  · rw [List.length_reverse, ← r1.len, List.length_reverse]; exact hn
  · exact tq_hsz Y
  · rw [List.reverse_reverse]
  · show 2 * 0 + _ ≤ 8
    rw [tq_cats r3]; omega
  · have := X.2.2.2.2.2.2.2.2.2.2.1; omega
  · have := X.2.2.2.2.2.2.2.2.2.2.2.1; omega
end TQ12
def RL : String := "TreequeryLaw"
