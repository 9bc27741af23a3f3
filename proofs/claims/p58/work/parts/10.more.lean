/-! ===== constructors, throws, System.arraycopy ===== -/
theorem tq_met {l : Launch} {y : MethodName} {ws : List Cond} {rm : Room} {Pc : Array Value → State → Prop} {Qc : Array Value → State → Outcome → State → Prop} {XC : String → State → State → Prop} {mc ms : Nat} {free : Addr → Prop} (hM : vx_Met l y ws rm Pc Qc XC mc ms free) (hx : ∀ E st t, ¬ XC E st t) : Met l y ws rm Pc Qc mc ms free := by
  intro p e ha hc hk s m args below hf happ hP hz
  obtain ⟨n, o, h1, h2, h3, hQ⟩ := hM p e ha hc hk s m args below hf happ hP hz
  refine ⟨n, o, h1, h2, h3, ?_⟩
  rcases hQ with hQ | ⟨q, -, E, ce, L, hX, -⟩
  · exact hQ
  · exact (hx _ _ _ hX).elim
theorem tq_vrun {p : Program} {l : Launch} {e : Env} {R : Room} {s : State} {m : MethodId} {args : Array Value} {below : List Frame} {meth : Method} {c : Code} {H : Heap} {locs : List Loc} {cells slots mc ms : Nat} {g : JFrame} {rest : List Value} {Qa : State → Outcome → State → Prop} {XC : String → State → State → Prop} {free : Addr → Prop} (h : va_Run p l e R s m args below meth c H locs cells slots mc ms g rest Qa free) : vx_Run p l e R s m args below meth c H locs cells slots mc ms g rest Qa XC free := fun T hT X => Or.inl (h T hT X)
section TQ7
variable {l : Launch} {M : tq_M} {d bc bs : Nat} {Q : tq_R → tq_H → Prop} {pc : Nat} {L : List (Nat × Value)} {S : List Value} {h : tq_H}
/-- a call of a constructor: it makes no throw -/
theorem tq_calI {y : MethodName} {cc : ByteArray} {nL n idx : Nat} (hy : tq_yok y cc nL none n) (hi : Cond.instanceMethod y ∈ tq_G) (hy1 : y.name = "<init>") (hl : Cond.methodLink M.1 idx y ∈ tq_G ∨ ∃ host, Cond.methodLinkNest M.1 idx y host ∈ tq_B) (hd : decode M.2.1 pc = .ok (.invokespecial idx, 3)) (as : List Value) (hn : as.length = n) {q : Nat} (hS : (S.map fun v => v.category).sum ≤ 8)
    {d1 b1 s1 bc' bs' : Nat} (hd1 : d1 + 1 ≤ d) (hb : b1 + bc' = bc) (hs1 : s1 + bs' = bs) {Q1 : tq_R → tq_H → Prop} (hC : tq_C l y cc nL none d1 b1 s1 (.ref q :: as) h Q1)
    (hx : ∀ E h1, ¬ Q1 (.inr E) h1) (kk : ∀ v h1, Q1 (.inl v) h1 → tq_W l M d bc' bs' Q (pc + 3) L (v.toList ++ S) h1) : tq_W l M d bc bs Q pc L (as.reverse ++ .ref q :: S) h := by
  subst hb; subst hs1
  intro p e R s m args below meth c D cA A ad0 mc ms X H locs cells slots ws ls S' Y hc hs
  obtain ⟨R1, R2, rfl, r1, r2⟩ := tq_al.cut Y.2.2.2.2.2.2
  cases R2 with
  | nil => exact r2.elim
  | cons w S1 =>
    obtain ⟨⟨a, ha, rfl⟩, r3⟩ := r2
    have Y1 : tq_dy M.2.2.1 D cA A ad0 s.heap h L S H locs ws ls S1 := ⟨Y.1, Y.2.1, Y.2.2.1, Y.2.2.2.1, Y.2.2.2.2.1, Y.2.2.2.2.2.1, r3⟩
    have hal : tq_al (tq_vr (tq_ad ws)) (.ref q :: as) (.ref a :: R1.reverse) := ⟨⟨a, ha, rfl⟩, by
      have := r1.rev
      rwa [List.reverse_reverse] at this⟩
    have hM := tq_met (hC X.2.2.2.2.2.2.2.2.2.2.2.2.2.2.2.2.2.1 D cA ws (.ref a :: R1.reverse) H.size Y.2.2.2.1 hal) (fun E st t z => by obtain ⟨⟨h1, z, -⟩, -⟩ := z; exact hx _ _ z)
    have hts := X.2.2.2.2.2.2.1
    have e1 : (R1.reverse).length = n := by rw [List.length_reverse, ← r1.len, List.length_reverse]; exact hn
    have e2 : 2 * (F0 m pc ls (R1 ++ .ref a :: S1)).monitorRoom + (S1.map fun v => v.category).sum ≤ 8 := by
      show 2 * 0 + _ ≤ 8
      rw [tq_cats r3]; omega
    have f1 := X.2.2.2.2.2.2.2.2.2.2.1
    have f2 := X.2.2.2.2.2.2.2.2.2.2.2.1
    rcases hl with hl | ⟨host, hl⟩
    · exact tq_ran X Y1 (tq_vrun (va_runI (g := F0 m pc ls (R1 ++ .ref a :: S1)) (b := a) (As := R1.reverse) (rest := S1) (Ts := tq_G) (n := n) ⟨X.1, X.2.1, X.2.2.1, X.2.2.2.2.2.1, hts⟩ hM ⟨tq_callB X hy hl hd1, hy1, hts _ hi⟩ ⟨tq_blind, tq_pcok X Y (.ref a :: R1.reverse)⟩ rfl e1 (tq_hsz Y) (by rw [List.reverse_reverse]) e2 hd ⟨by omega, by omega⟩)) (by omega) (by omega) (fun E h1 z => (hx E h1 z).elim) kk
    · obtain ⟨h1, h2, h3, h4, h5⟩ := hy
      have hCN : va_CN R s args M.1 idx y host cc nL none (Cond.code y cc nL none :: tq_G) (tq_rm d1 b1 s1) b1 s1 n := by
        refine ⟨⟨rfl, rfl, by rw [X.2.2.2.2.2.2.2.2.1]; exact hd1, ?_, tq_word hts h1, List.mem_cons_self⟩, hts _ h1, hts _ h2, h3, fun sig hsig => ?_, va_Nw.use rfl (X.2.2.2.2.2.2.2.2.2.2.2.2.2.2.2.2.1.1 _ hl)⟩
        · rw [X.2.2.2.2.2.2.2.2.2.1]
          show 8 + (nL + 11) + (38 * d1 + 20) ≤ _
          omega
        · rw [hsig] at h4
          exact (Option.some.inj h4).symm
      exact tq_ran X Y1 (tq_vrun (va_runIN (g := F0 m pc ls (R1 ++ .ref a :: S1)) (host := host) (b := a) (As := R1.reverse) (rest := S1) (Ts := tq_G) (n := n) ⟨X.1, X.2.1, X.2.2.1, X.2.2.2.2.2.1, hts⟩ hM ⟨hCN, hy1, hts _ hi⟩ ⟨tq_blind, tq_pcok X Y (.ref a :: R1.reverse)⟩ rfl e1 (tq_hsz Y) (by rw [List.reverse_reverse]) e2 hd ⟨by omega, by omega⟩)) (by omega) (by omega) (fun E h1 z => (hx E h1 z).elim) kk
/-- the three classes of exceptions, with the entries of the class's file that make them -/
def tq_ex : List (String × Nat × Nat) := [("java/lang/IndexOutOfBoundsException", 440, 444), ("java/lang/IllegalArgumentException", 268, 272), ("java/lang/IllegalStateException", 149, 153)]
def tq_ch : List String := ["java/lang/RuntimeException", "java/lang/Exception"]
theorem tq_ex_g : ∀ q ∈ tq_ex, ∀ w ∈ Cond.classLink RX10 q.2.1 q.1 :: Cond.initialized q.1 :: (vx_atS RX10 q.2.2 q.1 tq_ch).filter goodWord, w ∈ tq_G := by decide +kernel
theorem tq_ex_b : ∀ q ∈ tq_ex, ∀ w ∈ (vx_atS RX10 q.2.2 q.1 tq_ch).filter (fun w => !goodWord w), w ∈ tq_B := by decide +kernel
theorem tq_ex_o : ∀ q ∈ tq_ex, ∀ w ∈ Cond.classLink RX10 q.2.1 q.1 :: Cond.initialized q.1 :: vx_atS RX10 q.2.2 q.1 tq_ch, vx_ot w = true := by decide +kernel
theorem tq_ex_f : ∀ q ∈ tq_ex, Bundle.fit q.1 = true := by decide +kernel
theorem tq_ch_f : ∀ q ∈ tq_ch, Bundle.fit q = true := by decide +kernel
theorem tq_Bo : ∀ w ∈ tq_B, w.onTables = true := by
  intro w hw
  have h2 := (List.mem_filter.mp hw).2
  cases w <;> first | (cases h2; done) | rfl
/-- 'throw new E("..")' -/
theorem tq_throw {E : String} {ik ic : Nat} (hE : (E, ik, ic) ∈ tq_ex) {is : Nat} {text : String} (hst : (is, text) ∈ tq_str) (hM : M.1 = RX10) (hM2 : M.2.2.2.2.2.1 = []) (d0 : decode M.2.1 pc = .ok (.new ik, 3)) (d3 : decode M.2.1 (pc + 3) = .ok (.dup, 1)) (d4 : decode M.2.1 (pc + 4) = .ok (.ldc_w is, 3)) (d7 : decode M.2.1 (pc + 7) = .ok (.invokespecial ic, 3)) (d10 : decode M.2.1 (pc + 10) = .ok (.athrow, 1))
    (hdp : 6 ≤ d) (hb : 1 ≤ bc) (hs6 : 6 ≤ bs) (q : Q (.inr E) h) : tq_W l M d bc bs Q pc L [] h := by
  intro p e R s m args below meth c D cA A ad0 mc ms X H locs cells slots ws ls S' Y hc hs
  cases List.length_eq_zero_iff.mp (tq_al.len Y.2.2.2.2.2.2).symm
  obtain ⟨sa, hsa⟩ := X.2.2.2.2.2.2.2.2.2.2.2.2.2.2.2.2.1.2.1 _ hst
  have hts := X.2.2.2.2.2.2.1
  have hg := tq_ex_g _ hE
  have hz := X.2.2.2.2.2.2.2.2.2.2.2.2.2.1
  have f1 := X.2.2.2.2.2.2.2.2.2.2.1
  have f2 := X.2.2.2.2.2.2.2.2.2.2.2.1
  have f3 := X.2.2.2.2.2.2.2.2.1
  have f4 := X.2.2.2.2.2.2.2.2.2.1
  refine vx_throwSW (own := RX10) (cls := E) (text := text) (names := tq_ch) (ik := ik) (is := is) (ic := ic) (sa := sa) (A := A) X.1 X.2.1 X.2.2.2.2.2.2.2.2.2.2.2.2.2.2.2.2.2.1 (hM ▸ X.2.2.2.2.2.1) (tq_ex_f _ hE) tq_ch_f (hts _ (hg _ List.mem_cons_self)) (hts _ (hg _ (List.mem_cons_of_mem _ List.mem_cons_self))) hsa ?_ (tq_ex_o _ hE) hz.1 hz.2 Y.2.2.1 ((tq_hsz Y).trans X.2.2.1.symm) d0 d3 d4 d7 d10 ?_ ?_ ?_ (by omega) (by omega) X.2.2.2.2.1 ?_ Y.2.2.1.2.2 (by omega) (by omega)
  · exact vx_hat (fun w hw => hts _ (hg w (List.mem_cons_of_mem _ (List.mem_cons_of_mem _ hw)))) (tq_ex_b _ hE) (fun w hw => va_Nw.use (tq_Bo w hw) (X.2.2.2.2.2.2.2.2.2.2.2.2.2.2.2.2.1.1 w hw))
  · intro x hx
    rw [X.2.2.2.2.2.2.2.2.2.2.2.2.2.2.2.1, hM2] at hx
    cases hx
  · show 2 + 3 < R.frames
    omega
  · show 0 + (13 * (2 + 1) + 43) ≤ R.locals
    omega
  · intro t ha hsz hq
    refine ⟨⟨h, q, ws, Y.1.kept (fun k x hx => hq _ (Y.1 k x hx).lt), Y.2.1, Y.2.2.2.1, Y.2.2.2.2.1⟩, Nat.le_trans Y.2.2.1.1 hsz, fun x hx hA => (hq x (Nat.lt_of_lt_of_le hx Y.2.2.1.1)).trans (Y.2.2.1.2.1 x hx hA)⟩
/-- the same with a short ldc -/
theorem tq_throws {E : String} {ik ic : Nat} (hE : (E, ik, ic) ∈ tq_ex) {is : Nat} {text : String} (hst : (is, text) ∈ tq_str) (hM : M.1 = RX10) (hM2 : M.2.2.2.2.2.1 = []) (d0 : decode M.2.1 pc = .ok (.new ik, 3)) (d3 : decode M.2.1 (pc + 3) = .ok (.dup, 1)) (d4 : decode M.2.1 (pc + 4) = .ok (.ldc is, 2)) (d7 : decode M.2.1 (pc + 6) = .ok (.invokespecial ic, 3)) (d10 : decode M.2.1 (pc + 9) = .ok (.athrow, 1))
    (hdp : 6 ≤ d) (hb : 1 ≤ bc) (hs6 : 6 ≤ bs) (q : Q (.inr E) h) : tq_W l M d bc bs Q pc L [] h := by
  intro p e R s m args below meth c D cA A ad0 mc ms X H locs cells slots ws ls S' Y hc hs
  cases List.length_eq_zero_iff.mp (tq_al.len Y.2.2.2.2.2.2).symm
  obtain ⟨sa, hsa⟩ := X.2.2.2.2.2.2.2.2.2.2.2.2.2.2.2.2.1.2.1 _ hst
  have hts := X.2.2.2.2.2.2.1
  have hg := tq_ex_g _ hE
  have hz := X.2.2.2.2.2.2.2.2.2.2.2.2.2.1
  have f1 := X.2.2.2.2.2.2.2.2.2.2.1
  have f2 := X.2.2.2.2.2.2.2.2.2.2.2.1
  have f3 := X.2.2.2.2.2.2.2.2.1
  have f4 := X.2.2.2.2.2.2.2.2.2.1
  refine vx_throwS (own := RX10) (cls := E) (text := text) (names := tq_ch) (ik := ik) (is := is) (ic := ic) (sa := sa) (A := A) X.1 X.2.1 X.2.2.2.2.2.2.2.2.2.2.2.2.2.2.2.2.2.1 (hM ▸ X.2.2.2.2.2.1) (tq_ex_f _ hE) tq_ch_f (hts _ (hg _ List.mem_cons_self)) (hts _ (hg _ (List.mem_cons_of_mem _ List.mem_cons_self))) hsa ?_ (tq_ex_o _ hE) hz.1 hz.2 Y.2.2.1 ((tq_hsz Y).trans X.2.2.1.symm) d0 d3 d4 d7 d10 ?_ ?_ ?_ (by omega) (by omega) X.2.2.2.2.1 ?_ Y.2.2.1.2.2 (by omega) (by omega)
  · exact vx_hat (fun w hw => hts _ (hg w (List.mem_cons_of_mem _ (List.mem_cons_of_mem _ hw)))) (tq_ex_b _ hE) (fun w hw => va_Nw.use (tq_Bo w hw) (X.2.2.2.2.2.2.2.2.2.2.2.2.2.2.2.2.1.1 w hw))
  · intro x hx
    rw [X.2.2.2.2.2.2.2.2.2.2.2.2.2.2.2.1, hM2] at hx
    cases hx
  · show 2 + 3 < R.frames
    omega
  · show 0 + (13 * (2 + 1) + 43) ≤ R.locals
    omega
  · intro t ha hsz hq
    refine ⟨⟨h, q, ws, Y.1.kept (fun k x hx => hq _ (Y.1 k x hx).lt), Y.2.1, Y.2.2.2.1, Y.2.2.2.2.1⟩, Nat.le_trans Y.2.2.1.1 hsz, fun x hx hA => (hq x (Nat.lt_of_lt_of_le hx Y.2.2.1.1)).trans (Y.2.2.1.2.1 x hx hA)⟩
theorem tq_nfw : nativeFrameWords "java/lang/System" "arraycopy" 5 + 11 ≤ 58 := by decide +kernel
/-- System.arraycopy of ints -/
theorem tq_copyi (idx : Nat) (hd : decode M.2.1 pc = .ok (.invokestatic idx, 3)) (hl : Cond.methodLink M.1 idx arraycopyName ∈ tq_G) (hnat : Cond.native arraycopyName ∈ tq_G) (hstat : Cond.static arraycopyName ∈ tq_G) (hini : Cond.initialized "java/lang/System" ∈ tq_G) {q0 q1 n0 n1 : Nat} {f g : Nat → Int32} (h0 : h.2 q0 = .inr (0, (n0, .inl f))) (h1 : h.2 q1 = .inr (0, (n1, .inl g))) {sp dp n : Int32} (g1 : ¬ sp < 0) (g2 : ¬ dp < 0) (g3 : ¬ n < 0) (g4 : sp.toNatClampNeg + n.toNatClampNeg ≤ n0) (g5 : dp.toNatClampNeg + n.toNatClampNeg ≤ n1) (hdp : 1 ≤ d)
    (k : tq_W l M d bc bs Q (pc + 3) L [] (tq_up h q1 (.inr (0, (n1, .inl (va_cpy f g sp.toNatClampNeg dp.toNatClampNeg n.toNatClampNeg)))))) : tq_W l M d bc bs Q pc L [.int n, .int dp, .ref q1, .int sp, .ref q0] h := by
  intro p e R s m args below meth c D cA A ad0 mc ms X H locs cells slots ws ls S' Y hc hs
  obtain ⟨_, rfl, Y1⟩ := tq_popI Y
  obtain ⟨_, rfl, Y2⟩ := tq_popI Y1
  obtain ⟨a1, x1, _, rfl, e1, e1', Y3⟩ := tq_popR Y2
  obtain ⟨_, rfl, Y4⟩ := tq_popI Y3
  obtain ⟨a0, x0, _, rfl, e0, e0', Y5⟩ := tq_popR Y4
  cases List.length_eq_zero_iff.mp (tq_al.len Y5.2.2.2.2.2.2).symm
  rw [h0] at e0'
  rw [h1] at e1'
  obtain ⟨y0, rfl, e3⟩ := e0'
  cases (show y0 = .inl f from e3)
  obtain ⟨y1, rfl, e4⟩ := e1'
  cases (show y1 = .inl g from e4)
  have hts := X.2.2.2.2.2.2.1
  have f3 := X.2.2.2.2.2.2.2.2.1
  have f4 := X.2.2.2.2.2.2.2.2.2.1
  exact va_copyi (D := D) X.1 X.2.1 (X.2.2.1.trans (tq_hsz Y).symm) X.2.2.2.2.2.1 (hts _ hl) (hts _ hnat) (hts _ hstat) (hts _ hini) X.2.2.2.2.2.2.2.1 Y.1 Y.2.1 Y.2.2.1 q0 q1 0 0 e0 e1 rfl rfl rfl g1 g2 g3 g4 g5 (fun i _ => rfl) (by omega) (by have := tq_nfw; simp only [List.map_nil, List.sum_nil]; omega) hd
    (fun H1 locs1 P1 D1 S1 => k X (tq_dyu Y5 e1 ⟨_, rfl, rfl⟩ P1 D1 S1) hc hs)
end TQ7
