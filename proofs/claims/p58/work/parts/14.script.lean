/-! ===== methods that read the script; an int of the constants ===== -/
section TS1
variable {l : Launch} {M : tq_M} {d bc bs : Nat} {Q : tq_R → tq_H → Prop} {pc : Nat} {L : List (Nat × Value)} {S : List Value} {h : tq_H}
theorem tq_ldc {i : Nat} (hd : decode M.2.1 pc = .ok (.ldc i, 2)) {v : Int32} (hw : Cond.constant M.1 i v ∈ tq_G) (k : tq_W l M d bc bs Q (pc + 2) L (.int v :: S) h) : tq_W l M d bc bs Q pc L S h := by
  intro p e R s m args below meth c D cA A ad0 mc ms X H locs cells slots ws ls S' Y hc hs
  exact lv_ldc X.1 X.2.1 X.2.2.2.2.2.1 (X.2.2.2.2.2.2.1 _ hw) hd (k X (tq_psh Y rfl) hc hs)
end TS1
def tq_PcX (D : va_G) (cA : Nat → ClassId) (ws : va_W) (as : List Value) (sz : Nat) (b n : Nat) (xs : Nat → Int32) : Array Value → State → Prop := fun a U =>
  tq_Pc D cA ws as sz a U ∧ va_X b n xs U U.heap ∧ b < U.heap.size ∧ ¬ va_A ws sz b
/-- a contract of a method that reads the script -/
def tq_CX (l : Launch) (y : MethodName) (cc : ByteArray) (nL : Nat) (ret : Option FieldType) (d bc bs : Nat) (as : List Value) (h : tq_H) (Q : tq_R → tq_H → Prop) (b n : Nat) (xs : Nat → Int32) : Prop :=
  l.stackTraces = false → ∀ (D : va_G) (cA : Nat → ClassId) (ws : va_W) (as' : List Value) (sz : Nat), tq_w cA h ws → tq_al (tq_vr (tq_ad ws)) as as' →
    vx_Met l y (Cond.code y cc nL ret :: tq_G) (tq_rm d bc bs) (tq_PcX D cA ws as' sz b n xs) (tq_Qc D cA (va_A ws sz) (tq_ad ws) Q) (tq_XC D cA (va_A ws sz) (tq_ad ws) Q) bc bs (va_A ws sz)
theorem tq_blindX {D : va_G} {cA : Nat → ClassId} {ws : va_W} {as : List Value} {sz b n : Nat} {xs : Nat → Int32} : FrameBlind (tq_PcX D cA ws as sz b n xs) := fun a U g mk q => by
  obtain ⟨q1, q2, q3, q4⟩ := q
  exact ⟨tq_blind a U g mk q1, va_X.moved (u := U) (U := U.calling g mk a) (Vm.Alike.refl U.vm) q2, q3, q4⟩
theorem tq_bodyX {l : Launch} {y : MethodName} {cc : ByteArray} {nL : Nat} {ret : Option FieldType} {d bc bs : Nat} {as : List Value} {h : tq_H} {Q : tq_R → tq_H → Prop} {b n : Nat} {xs : Nat → Int32} (hy : plainName y.cls = true) (hlen : (lg_sl as).length ≤ nL)
    (k : tq_W l (y.cls, cc, nL, ret, false, [], some (b, n, xs)) d bc bs Q 0 (lv_args 0 as) [] h) : tq_CX l y cc nL ret d bc bs as h Q b n xs := by
  intro hl D cA ws as' sz hw hal
  refine vx_ofW (ws' := tq_G) hy rfl ?_
  intro p e s m args below meth c s₁ B hml ht hv
  obtain ⟨⟨rfl, hsz, hP, hK, hD0, hz, hbx⟩, hX1, hX2, hX3⟩ := hv
  have hts : ∀ w ∈ tq_G, w.before as'.toArray s = true := fun w hw2 => atoms_spec (ws := Cond.code y cc nL ret :: tq_G) B.pre w (List.mem_cons_of_mem _ hw2)
  have hown : s.vm.findClass y.cls = some m.cls := findClass_of_methodNamed B.named
  subst hsz
  have hD := hD0.self (sz := s.heap.size)
  have hent := lv_entry as' (n := nL) (by rw [← tq_sl_len hal]; exact hlen)
  rw [lg_entry_eq]
  generalize (lg_sl as' ++ List.replicate (nL - (lg_sl as').length) Slot.unset).toArray = ls at hent ⊢
  have X : tq_cx l (y.cls, cc, nL, ret, false, [], some (b, n, xs)) d p (headSpec (Cond.code y cc nL ret :: tq_G) (tq_rm d bc bs)).room s m as'.toArray meth c D cA (va_A ws s.heap.size) bc bs :=
    ⟨B.exec, B.bytes, hml, B.returns, B.notSynchronized, hown, hts, hK, rfl, rfl, Nat.le_refl _, Nat.le_refl _, fun q hq => Or.inr hq, hz, (fun hbt => by cases hbt), by
      cases hq : c.exceptionTable.toList with
      | nil => rfl
      | cons x r => exact (ht x (by rw [hq]; exact List.mem_cons_self)).elim, hbx, hl, fun q hq => by cases hq; exact ⟨hX1, hX2, hX3⟩⟩
  exact k X (cells := 0) (slots := 0) ⟨hP, hD, va_S.rf, hw, List.prefix_refl _, ⟨_, hent, tq_al_args 0 hal⟩, trivial⟩ (by omega) (by omega)
section TS2
variable {l : Launch} {M : tq_M} {d bc bs : Nat} {Q : tq_R → tq_H → Prop} {pc : Nat} {L : List (Nat × Value)} {S : List Value} {h : tq_H}
/-- a call of a class's own method that reads the caller's script -/
theorem tq_calSX {y : MethodName} {cc : ByteArray} {nL : Nat} {ret : Option FieldType} {k idx : Nat} {b n : Nat} {xs : Nat → Int32} (hMs : M.2.2.2.2.2.2 = some (b, n, xs)) (hy : tq_yok y cc nL ret k) (hv : Cond.static y ∈ tq_G) (hl : Cond.methodLink M.1 idx y ∈ tq_G) (hd : decode M.2.1 pc = .ok (.invokestatic idx, 3)) (as : List Value) (hn : as.length = k) (hS : (S.map fun v => v.category).sum ≤ 8)
    {d1 b1 s1 bc' bs' : Nat} (hd1 : d1 + 1 ≤ d) (hb : b1 + bc' = bc) (hs1 : s1 + bs' = bs) {Q1 : tq_R → tq_H → Prop} (hC : tq_CX l y cc nL ret d1 b1 s1 as h Q1 b n xs)
    (kx : ∀ E h1, Q1 (.inr E) h1 → tq_X l M d bc' bs' Q E pc L h1) (kk : ∀ v h1, Q1 (.inl v) h1 → tq_W l M d bc' bs' Q (pc + 3) L (v.toList ++ S) h1) : tq_W l M d bc bs Q pc L (as.reverse ++ S) h := by
  subst hb; subst hs1
  intro p e R s m args below meth c D cA A ad0 mc ms X H locs cells slots ws ls S' Y hc hs
  obtain ⟨R1, S1, rfl, r1, r3⟩ := tq_al.cut Y.2.2.2.2.2.2
  have Y1 : tq_dy M.2.2.1 D cA A ad0 s.heap h L S H locs ws ls S1 := ⟨Y.1, Y.2.1, Y.2.2.1, Y.2.2.2.1, Y.2.2.2.2.1, Y.2.2.2.2.2.1, r3⟩
  have hal : tq_al (tq_vr (tq_ad ws)) as R1.reverse := by
    have := r1.rev
    rwa [List.reverse_reverse] at this
  have hM := hC X.2.2.2.2.2.2.2.2.2.2.2.2.2.2.2.2.2.1 D cA ws R1.reverse H.size Y.2.2.2.1 hal
  have hts := X.2.2.2.2.2.2.1
  obtain ⟨x1, x2, x3⟩ := X.2.2.2.2.2.2.2.2.2.2.2.2.2.2.2.2.2.2 _ hMs
  have hA1 := tq_A1 Y.2.1 Y.2.2.1 X.2.2.2.2.2.2.2.2.2.2.2.2.1
  refine tq_ran X Y1 (vx_runS (g := F0 m pc ls (R1 ++ S1)) (As := R1.reverse) (rest := S1) (Ts := tq_G) (n := k) ⟨X.1, X.2.1, X.2.2.1, X.2.2.2.2.2.1, hts⟩ hM ⟨tq_callB X hy hl hd1, hts _ hv⟩ ⟨tq_blindX, ?_⟩ rfl ?_ ?_ ?_ ?_ hd ⟨?_, ?_⟩) (by omega) (by omega) kx kk
  · intro U hU hW
    refine ⟨tq_pcok X Y R1.reverse U hU hW, ?_, ?_, fun z => x3 (hA1 _ z)⟩
    · rw [hU]
      exact (x1.kept (Y.2.2.1.2.1 _ x2 x3)).moved hW.alike
    · rw [hU]
      exact Nat.lt_of_lt_of_le x2 Y.2.2.1.1
  · rw [List.length_reverse, ← r1.len, List.length_reverse]; exact hn
  · exact tq_hsz Y
  · rw [List.reverse_reverse]
  · show 2 * 0 + _ ≤ 8
    rw [tq_cats r3]; omega
  · have := X.2.2.2.2.2.2.2.2.2.2.1; omega
  · have := X.2.2.2.2.2.2.2.2.2.2.2.1; omega
end TS2
