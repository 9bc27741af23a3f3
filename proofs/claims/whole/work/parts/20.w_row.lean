/-! ===== printed by wip/whole/tools: test ===== -/
abbrev cX0_one : ByteArray := prog_2_method_2_code
def yX0_one : MethodName := ⟨RX0, "one", "(I)J"⟩
theorem dX0_one_0 : decode cX0_one 0 = .ok (.iload_n 0, 1) := by decide +kernel
theorem dX0_one_1 : decode cX0_one 1 = .ok (.ifCond .lt 15, 3) := by decide +kernel
theorem dX0_one_4 : decode cX0_one 4 = .ok (.iload_n 0, 1) := by decide +kernel
theorem dX0_one_5 : decode cX0_one 5 = .ok (.bipush 64, 2) := by decide +kernel
theorem dX0_one_7 : decode cX0_one 7 = .ok (.if_icmp .ge 9, 3) := by decide +kernel
theorem dX0_one_10 : decode cX0_one 10 = .ok (.lconst 1, 1) := by decide +kernel
theorem dX0_one_11 : decode cX0_one 11 = .ok (.iload_n 0, 1) := by decide +kernel
theorem dX0_one_12 : decode cX0_one 12 = .ok (.lshl, 1) := by decide +kernel
theorem dX0_one_13 : decode cX0_one 13 = .ok (.goto 4, 3) := by decide +kernel
theorem dX0_one_16 : decode cX0_one 16 = .ok (.lconst 0, 1) := by decide +kernel
theorem dX0_one_17 : decode cX0_one 17 = .ok (.lreturn, 1) := by decide +kernel
abbrev cX5_get : ByteArray := prog_7_method_2_code
def yX5_get : MethodName := ⟨RX5, "get", "(I)I"⟩
theorem dX5_get_0 : decode cX5_get 0 = .ok (.iload_n 1, 1) := by decide +kernel
theorem dX5_get_1 : decode cX5_get 1 = .ok (.ifCond .lt 21, 3) := by decide +kernel
theorem dX5_get_4 : decode cX5_get 4 = .ok (.iload_n 1, 1) := by decide +kernel
theorem dX5_get_5 : decode cX5_get 5 = .ok (.aload_n 0, 1) := by decide +kernel
theorem dX5_get_6 : decode cX5_get 6 = .ok (.getfield 9, 3) := by decide +kernel
theorem dX5_get_9 : decode cX5_get 9 = .ok (.arraylength, 1) := by decide +kernel
theorem dX5_get_10 : decode cX5_get 10 = .ok (.if_icmp .ge 12, 3) := by decide +kernel
theorem dX5_get_13 : decode cX5_get 13 = .ok (.aload_n 0, 1) := by decide +kernel
theorem dX5_get_14 : decode cX5_get 14 = .ok (.getfield 9, 3) := by decide +kernel
theorem dX5_get_17 : decode cX5_get 17 = .ok (.iload_n 1, 1) := by decide +kernel
theorem dX5_get_18 : decode cX5_get 18 = .ok (.iaload, 1) := by decide +kernel
theorem dX5_get_19 : decode cX5_get 19 = .ok (.goto 4, 3) := by decide +kernel
theorem dX5_get_22 : decode cX5_get 22 = .ok (.iconst (-1), 1) := by decide +kernel
theorem dX5_get_23 : decode cX5_get 23 = .ok (.ireturn, 1) := by decide +kernel
theorem tk_kl_0 : Int64.ofNat ((0 : Fin 2) : Nat) = (0 : Int64) := by decide +kernel
theorem tk_kb_64 : (Int8.ofInt (64)).toInt32 = (64 : Int32) := by decide +kernel
theorem tk_kl_1 : Int64.ofNat ((1 : Fin 2) : Nat) = (1 : Int64) := by decide +kernel
theorem tk_ki_m1 : Int32.ofInt (-1) = (-1 : Int32) := by decide +kernel
theorem tk_RX5_9 : Cond.fieldLink RX5 9 RX5 (TX5 0).2.1 (TX5 0).2.2.1 ∈ tq_G := tq_g (i := 171) (by decide +kernel) rfl
abbrev mX0_one : tq_M := (RX0, cX0_one, 1, (some .long), false, [])
def f_X0_one (a0 : Int32) (h : tq_H) : Option (Int64) :=
  tq_let (if a0 < 0 then (0 : Int64) else (if a0 ≥ (64 : Int32) then (0 : Int64) else ((1 : Int64) <<< (a0.toInt64 &&& 63)))) fun p1 =>
  some p1
set_option maxHeartbeats 4000000 in
set_option maxRecDepth 20000 in
theorem w_X0_one {l : Launch} {d : Nat} (hd9 : 0 ≤ d) {a0 : Int32} {h : tq_H} {o : Int64} {Q : tq_R → tq_H → Prop} (hf : f_X0_one a0 h = some o) (hQ : ∀ r h9, r = .inl (some (.long o)) ∧ h = h9 → Q r h9) : tq_C l yX0_one cX0_one 1 (some .long) d 0 0 [.int a0] h Q := by
  refine tq_body (y := yX0_one) false (by decide +kernel) (fun z => by cases z) (Nat.le_of_ble_eq_true rfl) ?_
  show tq_W l mX0_one d 0 0 Q 0 [(0, .int a0)] [] h
  refine tq_iload_n (M := mX0_one) (pc := 0) dX0_one_0 rfl ?_
  obtain ⟨p1, ep1, hf⟩ := tq_le hf
  have HJ1 : tq_W l mX0_one d 0 0 Q 17 [] [.long p1] h := by
    refine tq_lret (M := mX0_one) (pc := 17) dX0_one_17 rfl ?_
    cases (Option.some.inj hf)
    exact hQ _ _ ⟨rfl, rfl⟩
  refine tq_if_lt (M := mX0_one) (pc := 1) (tgt := 16) dX0_one_1 (by decide) (fun cc => ?_) (fun cc => ?_)
  · have hf := tq_ifp ep1.symm cc
    refine tq_lconst (M := mX0_one) (pc := 16) dX0_one_16 tk_kl_0 ?_
    cases hf
    refine tq_pick (L2 := []) [] rfl ?_
    exact HJ1
  · have hf := tq_ifn ep1.symm cc
    refine tq_iload_n (M := mX0_one) (pc := 4) dX0_one_4 rfl ?_
    refine tq_bipush (M := mX0_one) (pc := 5) dX0_one_5 tk_kb_64 ?_
    refine tq_icmp_ge (M := mX0_one) (pc := 7) (tgt := 16) dX0_one_7 (by decide) (fun cc => ?_) (fun cc => ?_)
    · have hf := tq_ifp hf cc
      refine tq_lconst (M := mX0_one) (pc := 16) dX0_one_16 tk_kl_0 ?_
      cases hf
      refine tq_pick (L2 := []) [] rfl ?_
      exact HJ1
    · have hf := tq_ifn hf cc
      refine tq_lconst (M := mX0_one) (pc := 10) dX0_one_10 tk_kl_1 ?_
      refine tq_iload_n (M := mX0_one) (pc := 11) dX0_one_11 rfl ?_
      refine tq_lshl (M := mX0_one) (pc := 12) dX0_one_12 ?_
      refine tq_goto (M := mX0_one) (pc := 13) (tgt := 17) dX0_one_13 (by decide) ?_
      cases hf
      refine tq_pick (L2 := []) [] rfl ?_
      exact HJ1
abbrev mX5_get : tq_M := (RX5, cX5_get, 2, (some .int), false, [])
def f_X5_get (t : Nat) (a1 : Int32) (h : tq_H) : Option (Int32) :=
  (if a1 < 0 then
    some (-1 : Int32)
  else
    (tq_gr h t 5 0).bind fun r1 =>
    (tq_an h r1).bind fun x2 =>
    if a1 ≥ x2 then
      some (-1 : Int32)
    else
      (tq_gr h t 5 0).bind fun r3 =>
      (tq_ai h r3 a1).bind fun x4 =>
      some x4).bind fun p5 =>
  some p5
set_option maxHeartbeats 4000000 in
set_option maxRecDepth 20000 in
theorem w_X5_get {l : Launch} {d : Nat} (hd9 : 0 ≤ d) {t : Nat} {a1 : Int32} {h : tq_H} {o : Int32} {Q : tq_R → tq_H → Prop} (hf : f_X5_get t a1 h = some o) (hQ : ∀ r h9, r = .inl (some (.int o)) ∧ h = h9 → Q r h9) : tq_C l yX5_get cX5_get 2 (some .int) d 0 0 [.ref t, .int a1] h Q := by
  refine tq_body (y := yX5_get) false (by decide +kernel) (fun z => by cases z) (Nat.le_of_ble_eq_true rfl) ?_
  show tq_W l mX5_get d 0 0 Q 0 [(0, .ref t), (1, .int a1)] [] h
  refine tq_iload_n (M := mX5_get) (pc := 0) dX5_get_0 rfl ?_
  obtain ⟨p5, ep5, hf⟩ := tq_be hf
  have HJ1 : tq_W l mX5_get d 0 0 Q 23 [] [.int p5] h := by
    refine tq_iret (M := mX5_get) (pc := 23) dX5_get_23 rfl ?_
    cases (Option.some.inj hf)
    exact hQ _ _ ⟨rfl, rfl⟩
  refine tq_if_lt (M := mX5_get) (pc := 1) (tgt := 22) dX5_get_1 (by decide) (fun cc => ?_) (fun cc => ?_)
  · have hf := tq_ifp ep5 cc
    refine tq_iconst (M := mX5_get) (pc := 22) dX5_get_22 tk_ki_m1 ?_
    cases (Option.some.inj hf)
    refine tq_pick (L2 := []) [] rfl ?_
    exact HJ1
  · have hf := tq_ifn ep5 cc
    refine tq_iload_n (M := mX5_get) (pc := 4) dX5_get_4 rfl ?_
    refine tq_aload_n (M := mX5_get) (pc := 5) dX5_get_5 rfl ?_
    obtain ⟨r1, er1, hf⟩ := tq_be hf
    refine tq_getR (M := mX5_get) (pc := 6) tk_c5 (by decide) dX5_get_6 tk_RX5_9 rfl er1 ?_
    obtain ⟨x2, ex2, hf⟩ := tq_be hf
    refine tq_alenF (M := mX5_get) (pc := 9) dX5_get_9 ex2 ?_
    refine tq_icmp_ge (M := mX5_get) (pc := 10) (tgt := 22) dX5_get_10 (by decide) (fun cc => ?_) (fun cc => ?_)
    · have hf := tq_ifp hf cc
      refine tq_iconst (M := mX5_get) (pc := 22) dX5_get_22 tk_ki_m1 ?_
      cases (Option.some.inj hf)
      refine tq_pick (L2 := []) [] rfl ?_
      exact HJ1
    · have hf := tq_ifn hf cc
      refine tq_aload_n (M := mX5_get) (pc := 13) dX5_get_13 rfl ?_
      obtain ⟨r3, er3, hf⟩ := tq_be hf
      refine tq_getR (M := mX5_get) (pc := 14) tk_c5 (by decide) dX5_get_14 tk_RX5_9 rfl er3 ?_
      refine tq_iload_n (M := mX5_get) (pc := 17) dX5_get_17 rfl ?_
      obtain ⟨x4, ex4, hf⟩ := tq_be hf
      refine tq_ialdF (M := mX5_get) (pc := 18) dX5_get_18 ex4 ?_
      refine tq_goto (M := mX5_get) (pc := 19) (tgt := 23) dX5_get_19 (by decide) ?_
      cases (Option.some.inj hf)
      refine tq_pick (L2 := []) [] rfl ?_
      exact HJ1
