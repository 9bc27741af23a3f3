/-! ===== calls and throws, over the small machine ===== -/
theorem tq_word {args : Array Value} {s : State} (hts : ∀ w ∈ tq_G, w.before args s = true) {y : MethodName} {cc : ByteArray} {nL : Nat} {ret : Option FieldType} (hy : Cond.code y cc nL ret ∈ tq_G) : ∀ w ∈ Cond.code y cc nL ret :: tq_G, ∀ (a' : Array Value) (U : State), s.WarmedH U.vm → w.before a' U = true := by
  intro w hw a' U hW
  have hw2 : w ∈ tq_G := by
    rcases List.mem_cons.mp hw with rfl | h
    · exact hy
    · exact h
  exact word_at hW (good_of_word (tq_Gg w hw2)) (hts w hw2)
/-- what the tables say of a method -/
def tq_yok (y : MethodName) (cc : ByteArray) (nL : Nat) (ret : Option FieldType) (n : Nat) : Prop := Cond.code y cc nL ret ∈ tq_G ∧ Cond.initialized y.cls ∈ tq_G ∧ (y.cls ≠ "java/lang/invoke/MethodHandle" ∧ y.cls ≠ "java/lang/invoke/VarHandle") ∧ (parseMethodDescriptor y.desc).map (fun q => q.parameters.length) = some n ∧ nL ≤ 19
def tq_vok (y : MethodName) : Prop := Cond.instanceMethod y ∈ tq_G ∧ Cond.selects y.cls y y ∈ tq_G
theorem tq_blind {D : va_G} {cA : Nat → ClassId} {ws : va_W} {as : List Value} {sz : Nat} : FrameBlind (tq_Pc D cA ws as sz) := fun a U g mk q => by
  obtain ⟨q0, q1, q2, q3, q4, q5, q6⟩ := q
  exact ⟨q0, q1, q2, va_K.moved (u := U) (U := U.calling g mk a) (Vm.Alike.refl U.vm) q3, q4, ⟨vx_Zq.moved (u := U) (U := U.calling g mk a) (Vm.Alike.refl U.vm) q5.1, vx_Zq.moved (u := U) (U := U.calling g mk a) (Vm.Alike.refl U.vm) q5.2⟩, tq_bx.same (u := U) (U := U.calling g mk a) rfl q6⟩
section TQ5
variable {l : Launch} {M : tq_M} {d bc bs : Nat} {Q : tq_R → tq_H → Prop} {pc : Nat} {L : List (Nat × Value)} {S : List Value} {h : tq_H}
variable {p : Program} {e : Env} {R : Room} {s : State} {m : MethodId} {args : Array Value} {below : List Frame} {meth : Method} {c : Code} {D : va_G} {cA : Nat → ClassId} {A : Nat → Prop} {ad0 : List Nat} {mc ms : Nat} {H : Heap} {locs : List Loc} {cells slots : Nat} {ws : va_W} {ls : Array Slot} {S' : List Value}
theorem tq_pcok {nL : Nat} (X : tq_cx l M d p R s m args meth c D cA A mc ms) (Y : tq_dy nL D cA A ad0 s.heap h L S H locs ws ls S') (as : List Value) : ∀ U : State, U.heap = H → s.WarmedH U.vm → tq_Pc D cA ws as H.size as.toArray U := by
  intro U hU hW
  refine ⟨rfl, by rw [hU], by rw [hU]; exact Y.1, va_K.moved hW.alike X.2.2.2.2.2.2.2.1, Y.2.1.weaken (fun _ _ _ _ => trivial), ?_, X.2.2.2.2.2.2.2.2.2.2.2.2.2.2.2.2.1.warm hW⟩
  rw [hU]
  exact X.2.2.2.2.2.2.2.2.2.2.2.2.2.1.now Y.2.2.1 (tq_A1 Y.2.1 Y.2.2.1 X.2.2.2.2.2.2.2.2.2.2.2.2.1) hW
/-- behind a call's run: it returned, or threw -/
theorem tq_ran {Q1 : tq_R → tq_H → Prop} {b1 s1 : Nat} {a : Array Value} {st0 : List Value} (X : tq_cx l M d p R s m args meth c D cA A mc ms) (Y : tq_dy M.2.2.1 D cA A ad0 s.heap h L S H locs ws ls S')
    (hr : vx_Run p l e R s m args below meth c H locs cells slots b1 s1 (F0 m pc ls st0) S' (tq_Qc D cA (va_A ws H.size) (tq_ad ws) Q1 a) (tq_XC D cA (va_A ws H.size) (tq_ad ws) Q1) (va_A ws H.size))
    (hc : cells + b1 + bc ≤ mc) (hs : slots + s1 + bs ≤ ms) (kx : ∀ E h1, Q1 (.inr E) h1 → tq_X l M d bc bs Q E pc L h1) (kk : ∀ v h1, Q1 (.inl v) h1 → tq_W l M d bc bs Q (pc + 3) L (v.toList ++ S) h1) :
    W p l e R s m args below meth c H locs cells slots (vx_MQ below (tq_Qc D cA A ad0 Q) (tq_XC D cA A ad0 Q) args s mc ms A) (F0 m pc ls st0) := by
  have hA1 := tq_A1 Y.2.1 Y.2.2.1 X.2.2.2.2.2.2.2.2.2.2.2.2.1
  intro T hT Xs
  rcases hr T hT Xs with ⟨v, st₀, t, T', Lc, h0, X', hL, e1, e2, ⟨hq, hF⟩, st⟩ | ⟨q, st₀, t, T', Lc, E, ce, h0, X', hL, e1, e2, ⟨⟨h1, hq, ws1, P1, D1, w1, pre⟩, hF⟩, hce, hcv, hcl, st⟩
  · obtain ⟨k1, k2, k3⟩ := vx_keep h0 e1 Y.2.2.1 (fun q _ h => hA1 q h) hA1 hL hF
    rcases hq with ⟨eo, h1, hq, ws1, P1, D1, w1, pre⟩ | ⟨u, w, h1, eo, hq, ws1, P1, D1, w1, pre, hr⟩
    · cases eo
      obtain ⟨L', f1, f2⟩ := Y.2.2.2.2.2.1
      have Y1 : tq_dy M.2.2.1 D cA A ad0 s.heap h1 L S T'.heap (locs ++ Lc) ws1 ls S' := ⟨by rw [e1]; exact P1, D1.weaken (fun k q _ h => hA1 q.1 h), k3, w1, List.IsPrefix.trans Y.2.2.2.2.1 pre, ⟨L', f1, f2.mono fun _ _ q => ⟨q.1, q.2.mono pre⟩⟩, Y.2.2.2.2.2.2.mono fun _ _ q => q.mono pre⟩
      obtain ⟨t2, a1, b1⟩ := kk none h1 hq X Y1 hc hs T' rfl X'
      exact ⟨t2, st t2 a1, b1⟩
    · cases eo
      obtain ⟨L', f1, f2⟩ := Y.2.2.2.2.2.1
      have Y1 : tq_dy M.2.2.1 D cA A ad0 s.heap h1 L (u :: S) T'.heap (locs ++ Lc) ws1 ls (w :: S') := ⟨by rw [e1]; exact P1, D1.weaken (fun k q _ h => hA1 q.1 h), k3, w1, List.IsPrefix.trans Y.2.2.2.2.1 pre, ⟨L', f1, f2.mono fun _ _ q => ⟨q.1, q.2.mono pre⟩⟩, hr, Y.2.2.2.2.2.2.mono fun _ _ q => q.mono pre⟩
      obtain ⟨t2, a1, b1⟩ := kk (some u) h1 hq X Y1 hc hs T' rfl X'
      exact ⟨t2, st t2 a1, b1⟩
  · obtain ⟨k1, k2, k3⟩ := vx_keep h0 e1 Y.2.2.1 (fun q _ h => hA1 q h) hA1 hL hF
    obtain ⟨L', f1, f2⟩ := Y.2.2.2.2.2.1
    have Y1 : tq_dy M.2.2.1 D cA A ad0 s.heap h1 L [] T'.heap (locs ++ Lc) ws1 ls [] := ⟨by rw [e1]; exact P1, D1.weaken (fun k q _ h => hA1 q.1 h), k3, w1, List.IsPrefix.trans Y.2.2.2.2.1 pre, ⟨L', f1, f2.mono fun _ _ q => ⟨q.1, q.2.mono pre⟩⟩, trivial⟩
    obtain ⟨t2, a1, b1⟩ := kx E h1 hq X Y1 hc hs (by rw [e1]; exact hce) hcv hcl T' rfl X'
    exact ⟨t2, st.trans a1, b1⟩
theorem tq_cats {ad : List Nat} : ∀ {S S' : List Value}, tq_al (tq_vr ad) S S' → (S'.map fun v => v.category) = (S.map fun v => v.category)
  | [], [], _ => rfl
  | _ :: _, _ :: _, q => by simp only [List.map_cons]; rw [q.1.cat, tq_cats q.2]
  | [], _ :: _, q => q.elim
  | _ :: _, [], q => q.elim
theorem tq_callB {y : MethodName} {cc : ByteArray} {nL : Nat} {ret : Option FieldType} {n idx d1 b1 s1 : Nat} (X : tq_cx l M d p R s m args meth c D cA A mc ms) (hy : tq_yok y cc nL ret n) (hl : Cond.methodLink M.1 idx y ∈ tq_G) (hd1 : d1 + 1 ≤ d) :
    CallB R s args M.1 idx y cc nL ret (Cond.code y cc nL ret :: tq_G) (tq_rm d1 b1 s1) b1 s1 n := by
  have hts := X.2.2.2.2.2.2.1
  obtain ⟨h1, h2, h3, h4, h5⟩ := hy
  refine ⟨rfl, rfl, by rw [X.2.2.2.2.2.2.2.2.1]; exact hd1, ?_, tq_word hts h1, List.mem_cons_self, hts _ h1, hts _ h2, h3, fun sig hsig => ?_, hts _ hl⟩
  · rw [X.2.2.2.2.2.2.2.2.2.1]
    show 8 + (nL + 11) + (38 * d1 + 20) ≤ _
    omega
  · rw [hsig] at h4
    exact (Option.some.inj h4).symm
end TQ5
section TQ6
variable {l : Launch} {M : tq_M} {d bc bs : Nat} {Q : tq_R → tq_H → Prop} {pc : Nat} {L : List (Nat × Value)} {S : List Value} {h : tq_H}
theorem tq_hsz {nL : Nat} {D : va_G} {cA : Nat → ClassId} {A : Nat → Prop} {ad0 : List Nat} {H0 H : Heap} {locs : List Loc} {ws : va_W} {ls : Array Slot} {S' : List Value} (Y : tq_dy nL D cA A ad0 H0 h L S H locs ws ls S') : ls.size = nL := by
  obtain ⟨L', h1, -⟩ := Y.2.2.2.2.2.1
  exact h1.1
/-- a call of an object's method -/
theorem tq_calV {y : MethodName} {cc : ByteArray} {nL : Nat} {ret : Option FieldType} {n idx : Nat} (hy : tq_yok y cc nL ret n) (hv : tq_vok y) (hl : Cond.methodLink M.1 idx y ∈ tq_G) (hd : decode M.2.1 pc = .ok (.invokevirtual idx, 3)) (as : List Value) (hn : as.length = n) {S0 : List Value} (hS0 : S0 = as.reverse ++ S) {q ci N : Nat} {T : u_T} {fs : List Value} (ho : h.2 q = .inl (ci, fs)) (hci : tq_cl[ci]? = some (y.cls, T, N)) (hS : (S.map fun v => v.category).sum ≤ 8)
    {d1 b1 s1 bc' bs' : Nat} (hd1 : d1 + 1 ≤ d) (hb : b1 + bc' = bc) (hs1 : s1 + bs' = bs) {Q1 : tq_R → tq_H → Prop} (hC : tq_C l y cc nL ret d1 b1 s1 (.ref q :: as) h Q1)
    (kx : ∀ E h1, Q1 (.inr E) h1 → tq_X l M d bc' bs' Q E pc L h1) (kk : ∀ v h1, Q1 (.inl v) h1 → tq_W l M d bc' bs' Q (pc + 3) L (v.toList ++ S) h1) : tq_W l M d bc bs Q pc L (as.reverse ++ .ref q :: S) h := by
  subst hb; subst hs1
  intro p e R s m args below meth c D cA A ad0 mc ms X H locs cells slots ws ls S' Y hc hs
  obtain ⟨R1, R2, rfl, r1, r2⟩ := tq_al.cut Y.2.2.2.2.2.2
  cases R2 with
  | nil => exact r2.elim
  | cons w S1 =>
    obtain ⟨⟨a, ha, rfl⟩, r3⟩ := r2
    obtain ⟨x, e1, e2⟩ := Y.2.2.2.1.get ha
    rw [ho] at e2
    obtain ⟨gs, rfl, e3⟩ := e2
    have Y1 : tq_dy M.2.2.1 D cA A ad0 s.heap h L S H locs ws ls S1 := ⟨Y.1, Y.2.1, Y.2.2.1, Y.2.2.2.1, Y.2.2.2.2.1, Y.2.2.2.2.2.1, r3⟩
    have hR : R1 = R1.reverse.reverse := (List.reverse_reverse _).symm
    have hal : tq_al (tq_vr (tq_ad ws)) (.ref q :: as) (.ref a :: R1.reverse) := ⟨⟨a, ha, rfl⟩, by
      have := r1.rev
      rwa [List.reverse_reverse] at this⟩
    have hM := hC X.2.2.2.2.2.2.2.2.2.2.2.2.2.2.2.2.2.1 D cA ws (.ref a :: R1.reverse) H.size Y.2.2.2.1 hal
    have hts := X.2.2.2.2.2.2.1
    refine tq_ran X Y1 (vx_runV (g := F0 m pc ls (R1 ++ .ref a :: S1)) (C := y.cls) (b := a) (As := R1.reverse) (rest := S1) (Ts := tq_G) (n := n) ⟨X.1, X.2.1, X.2.2.1, X.2.2.2.2.2.1, hts⟩ hM ⟨tq_callB X hy hl hd1, hts _ hv.1, hts _ hv.2⟩ ⟨tq_blind, ?_, ?_⟩ rfl ?_ ?_ ?_ ?_ hd ⟨?_, ?_⟩) (by omega) (by omega) kx kk
    · exact va_recv X.2.2.2.2.2.2.2.1 Y.1 hci e1
    · exact tq_pcok X Y (.ref a :: R1.reverse)
    · rw [List.length_reverse, ← r1.len, List.length_reverse]; exact hn
    · exact tq_hsz Y
    · rw [List.reverse_reverse]
    · show 2 * 0 + _ ≤ 8
      rw [tq_cats r3]; omega
    · have := X.2.2.2.2.2.2.2.2.2.2.1; omega
    · have := X.2.2.2.2.2.2.2.2.2.2.2.1; omega
/-- a call of a class's own method -/
theorem tq_calS {y : MethodName} {cc : ByteArray} {nL : Nat} {ret : Option FieldType} {n idx : Nat} (hy : tq_yok y cc nL ret n) (hv : Cond.static y ∈ tq_G) (hl : Cond.methodLink M.1 idx y ∈ tq_G) (hd : decode M.2.1 pc = .ok (.invokestatic idx, 3)) (as : List Value) (hn : as.length = n) (hS : (S.map fun v => v.category).sum ≤ 8)
    {d1 b1 s1 bc' bs' : Nat} (hd1 : d1 + 1 ≤ d) (hb : b1 + bc' = bc) (hs1 : s1 + bs' = bs) {Q1 : tq_R → tq_H → Prop} (hC : tq_C l y cc nL ret d1 b1 s1 as h Q1)
    (kx : ∀ E h1, Q1 (.inr E) h1 → tq_X l M d bc' bs' Q E pc L h1) (kk : ∀ v h1, Q1 (.inl v) h1 → tq_W l M d bc' bs' Q (pc + 3) L (v.toList ++ S) h1) : tq_W l M d bc bs Q pc L (as.reverse ++ S) h := by
  subst hb; subst hs1
  intro p e R s m args below meth c D cA A ad0 mc ms X H locs cells slots ws ls S' Y hc hs
  obtain ⟨R1, S1, rfl, r1, r3⟩ := tq_al.cut Y.2.2.2.2.2.2
  have Y1 : tq_dy M.2.2.1 D cA A ad0 s.heap h L S H locs ws ls S1 := ⟨Y.1, Y.2.1, Y.2.2.1, Y.2.2.2.1, Y.2.2.2.2.1, Y.2.2.2.2.2.1, r3⟩
  have hal : tq_al (tq_vr (tq_ad ws)) as R1.reverse := by
    have := r1.rev
    rwa [List.reverse_reverse] at this
  have hM := hC X.2.2.2.2.2.2.2.2.2.2.2.2.2.2.2.2.2.1 D cA ws R1.reverse H.size Y.2.2.2.1 hal
  have hts := X.2.2.2.2.2.2.1
  refine tq_ran X Y1 (vx_runS (g := F0 m pc ls (R1 ++ S1)) (As := R1.reverse) (rest := S1) (Ts := tq_G) (n := n) ⟨X.1, X.2.1, X.2.2.1, X.2.2.2.2.2.1, hts⟩ hM ⟨tq_callB X hy hl hd1, hts _ hv⟩ ⟨tq_blind, ?_⟩ rfl ?_ ?_ ?_ ?_ hd ⟨?_, ?_⟩) (by omega) (by omega) kx kk
  · exact tq_pcok X Y R1.reverse
  · rw [List.length_reverse, ← r1.len, List.length_reverse]; exact hn
  · exact tq_hsz Y
  · rw [List.reverse_reverse]
  · show 2 * 0 + _ ≤ 8
    rw [tq_cats r3]; omega
  · have := X.2.2.2.2.2.2.2.2.2.2.1; omega
  · have := X.2.2.2.2.2.2.2.2.2.2.2.1; omega
end TQ6
