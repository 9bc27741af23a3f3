/-! ===== one law an instruction, over the small machine ===== -/
section TQ2
variable {l : Launch} {M : tq_M} {d bc bs : Nat} {Q : tq_R → tq_H → Prop} {pc : Nat} {L : List (Nat × Value)} {S : List Value} {h : tq_H}
theorem tq_iadd (hd : decode M.2.1 pc = .ok (.iadd, 1)) {x y : Int32} (k : tq_W l M d bc bs Q (pc + 1) L (.int (x + y) :: S) h) : tq_W l M d bc bs Q pc L (.int y :: .int x :: S) h := by
  intro p e R s m args below meth c D cA A ad0 mc ms X H locs cells slots ws ls S' Y hc hs
  obtain ⟨_, rfl, Y1⟩ := tq_popI Y
  obtain ⟨_, rfl, Y2⟩ := tq_popI Y1
  exact lv_iadd X.1 X.2.1 hd (k X (tq_psh Y2 rfl) hc hs)
theorem tq_isub (hd : decode M.2.1 pc = .ok (.isub, 1)) {x y : Int32} (k : tq_W l M d bc bs Q (pc + 1) L (.int (x - y) :: S) h) : tq_W l M d bc bs Q pc L (.int y :: .int x :: S) h := by
  intro p e R s m args below meth c D cA A ad0 mc ms X H locs cells slots ws ls S' Y hc hs
  obtain ⟨_, rfl, Y1⟩ := tq_popI Y
  obtain ⟨_, rfl, Y2⟩ := tq_popI Y1
  exact lv_isub X.1 X.2.1 hd (k X (tq_psh Y2 rfl) hc hs)
theorem tq_imul (hd : decode M.2.1 pc = .ok (.imul, 1)) {x y : Int32} (k : tq_W l M d bc bs Q (pc + 1) L (.int (x * y) :: S) h) : tq_W l M d bc bs Q pc L (.int y :: .int x :: S) h := by
  intro p e R s m args below meth c D cA A ad0 mc ms X H locs cells slots ws ls S' Y hc hs
  obtain ⟨_, rfl, Y1⟩ := tq_popI Y
  obtain ⟨_, rfl, Y2⟩ := tq_popI Y1
  exact lv_imul X.1 X.2.1 hd (k X (tq_psh Y2 rfl) hc hs)
theorem tq_iand (hd : decode M.2.1 pc = .ok (.iand, 1)) {x y : Int32} (k : tq_W l M d bc bs Q (pc + 1) L (.int (x &&& y) :: S) h) : tq_W l M d bc bs Q pc L (.int y :: .int x :: S) h := by
  intro p e R s m args below meth c D cA A ad0 mc ms X H locs cells slots ws ls S' Y hc hs
  obtain ⟨_, rfl, Y1⟩ := tq_popI Y
  obtain ⟨_, rfl, Y2⟩ := tq_popI Y1
  exact lv_iand X.1 X.2.1 hd (k X (tq_psh Y2 rfl) hc hs)
theorem tq_ior (hd : decode M.2.1 pc = .ok (.ior, 1)) {x y : Int32} (k : tq_W l M d bc bs Q (pc + 1) L (.int (x ||| y) :: S) h) : tq_W l M d bc bs Q pc L (.int y :: .int x :: S) h := by
  intro p e R s m args below meth c D cA A ad0 mc ms X H locs cells slots ws ls S' Y hc hs
  obtain ⟨_, rfl, Y1⟩ := tq_popI Y
  obtain ⟨_, rfl, Y2⟩ := tq_popI Y1
  exact lv_ior X.1 X.2.1 hd (k X (tq_psh Y2 rfl) hc hs)
theorem tq_ixor (hd : decode M.2.1 pc = .ok (.ixor, 1)) {x y : Int32} (k : tq_W l M d bc bs Q (pc + 1) L (.int (x ^^^ y) :: S) h) : tq_W l M d bc bs Q pc L (.int y :: .int x :: S) h := by
  intro p e R s m args below meth c D cA A ad0 mc ms X H locs cells slots ws ls S' Y hc hs
  obtain ⟨_, rfl, Y1⟩ := tq_popI Y
  obtain ⟨_, rfl, Y2⟩ := tq_popI Y1
  exact lv_ixor X.1 X.2.1 hd (k X (tq_psh Y2 rfl) hc hs)
theorem tq_ishl (hd : decode M.2.1 pc = .ok (.ishl, 1)) {x y : Int32} (k : tq_W l M d bc bs Q (pc + 1) L (.int (x <<< (y &&& 31)) :: S) h) : tq_W l M d bc bs Q pc L (.int y :: .int x :: S) h := by
  intro p e R s m args below meth c D cA A ad0 mc ms X H locs cells slots ws ls S' Y hc hs
  obtain ⟨_, rfl, Y1⟩ := tq_popI Y
  obtain ⟨_, rfl, Y2⟩ := tq_popI Y1
  exact lv_ishl X.1 X.2.1 hd (k X (tq_psh Y2 rfl) hc hs)
theorem tq_ishr (hd : decode M.2.1 pc = .ok (.ishr, 1)) {x y : Int32} (k : tq_W l M d bc bs Q (pc + 1) L (.int (x >>> (y &&& 31)) :: S) h) : tq_W l M d bc bs Q pc L (.int y :: .int x :: S) h := by
  intro p e R s m args below meth c D cA A ad0 mc ms X H locs cells slots ws ls S' Y hc hs
  obtain ⟨_, rfl, Y1⟩ := tq_popI Y
  obtain ⟨_, rfl, Y2⟩ := tq_popI Y1
  exact lv_ishr X.1 X.2.1 hd (k X (tq_psh Y2 rfl) hc hs)
theorem tq_idiv (hd : decode M.2.1 pc = .ok (.idiv, 1)) {x y : Int32} (hne : ¬ y = 0) (k : tq_W l M d bc bs Q (pc + 1) L (.int (x / y) :: S) h) : tq_W l M d bc bs Q pc L (.int y :: .int x :: S) h := by
  intro p e R s m args below meth c D cA A ad0 mc ms X H locs cells slots ws ls S' Y hc hs
  obtain ⟨_, rfl, Y1⟩ := tq_popI Y
  obtain ⟨_, rfl, Y2⟩ := tq_popI Y1
  exact lv_idiv X.1 X.2.1 hd hne (k X (tq_psh Y2 rfl) hc hs)
theorem tq_irem (hd : decode M.2.1 pc = .ok (.irem, 1)) {x y : Int32} (hne : ¬ y = 0) (k : tq_W l M d bc bs Q (pc + 1) L (.int (x - x / y * y) :: S) h) : tq_W l M d bc bs Q pc L (.int y :: .int x :: S) h := by
  intro p e R s m args below meth c D cA A ad0 mc ms X H locs cells slots ws ls S' Y hc hs
  obtain ⟨_, rfl, Y1⟩ := tq_popI Y
  obtain ⟨_, rfl, Y2⟩ := tq_popI Y1
  exact lv_irem X.1 X.2.1 hd hne (k X (tq_psh Y2 rfl) hc hs)
theorem tq_ineg (hd : decode M.2.1 pc = .ok (.ineg, 1)) {x : Int32} (k : tq_W l M d bc bs Q (pc + 1) L (.int (-x) :: S) h) : tq_W l M d bc bs Q pc L (.int x :: S) h := by
  intro p e R s m args below meth c D cA A ad0 mc ms X H locs cells slots ws ls S' Y hc hs
  obtain ⟨_, rfl, Y1⟩ := tq_popI Y
  exact lv_ineg X.1 X.2.1 hd (k X (tq_psh Y1 rfl) hc hs)
theorem tq_ladd (hd : decode M.2.1 pc = .ok (.ladd, 1)) {x y : Int64} (k : tq_W l M d bc bs Q (pc + 1) L (.long (x + y) :: S) h) : tq_W l M d bc bs Q pc L (.long y :: .long x :: S) h := by
  intro p e R s m args below meth c D cA A ad0 mc ms X H locs cells slots ws ls S' Y hc hs
  obtain ⟨_, rfl, Y1⟩ := tq_popL Y
  obtain ⟨_, rfl, Y2⟩ := tq_popL Y1
  exact lv_ladd X.1 X.2.1 hd (k X (tq_psh Y2 rfl) hc hs)
theorem tq_lsub (hd : decode M.2.1 pc = .ok (.lsub, 1)) {x y : Int64} (k : tq_W l M d bc bs Q (pc + 1) L (.long (x - y) :: S) h) : tq_W l M d bc bs Q pc L (.long y :: .long x :: S) h := by
  intro p e R s m args below meth c D cA A ad0 mc ms X H locs cells slots ws ls S' Y hc hs
  obtain ⟨_, rfl, Y1⟩ := tq_popL Y
  obtain ⟨_, rfl, Y2⟩ := tq_popL Y1
  exact lv_lsub X.1 X.2.1 hd (k X (tq_psh Y2 rfl) hc hs)
theorem tq_lmul (hd : decode M.2.1 pc = .ok (.lmul, 1)) {x y : Int64} (k : tq_W l M d bc bs Q (pc + 1) L (.long (x * y) :: S) h) : tq_W l M d bc bs Q pc L (.long y :: .long x :: S) h := by
  intro p e R s m args below meth c D cA A ad0 mc ms X H locs cells slots ws ls S' Y hc hs
  obtain ⟨_, rfl, Y1⟩ := tq_popL Y
  obtain ⟨_, rfl, Y2⟩ := tq_popL Y1
  exact lv_lmul X.1 X.2.1 hd (k X (tq_psh Y2 rfl) hc hs)
theorem tq_land (hd : decode M.2.1 pc = .ok (.land, 1)) {x y : Int64} (k : tq_W l M d bc bs Q (pc + 1) L (.long (x &&& y) :: S) h) : tq_W l M d bc bs Q pc L (.long y :: .long x :: S) h := by
  intro p e R s m args below meth c D cA A ad0 mc ms X H locs cells slots ws ls S' Y hc hs
  obtain ⟨_, rfl, Y1⟩ := tq_popL Y
  obtain ⟨_, rfl, Y2⟩ := tq_popL Y1
  exact lv_land X.1 X.2.1 hd (k X (tq_psh Y2 rfl) hc hs)
theorem tq_lor (hd : decode M.2.1 pc = .ok (.lor, 1)) {x y : Int64} (k : tq_W l M d bc bs Q (pc + 1) L (.long (x ||| y) :: S) h) : tq_W l M d bc bs Q pc L (.long y :: .long x :: S) h := by
  intro p e R s m args below meth c D cA A ad0 mc ms X H locs cells slots ws ls S' Y hc hs
  obtain ⟨_, rfl, Y1⟩ := tq_popL Y
  obtain ⟨_, rfl, Y2⟩ := tq_popL Y1
  exact lv_lor X.1 X.2.1 hd (k X (tq_psh Y2 rfl) hc hs)
theorem tq_lxor (hd : decode M.2.1 pc = .ok (.lxor, 1)) {x y : Int64} (k : tq_W l M d bc bs Q (pc + 1) L (.long (x ^^^ y) :: S) h) : tq_W l M d bc bs Q pc L (.long y :: .long x :: S) h := by
  intro p e R s m args below meth c D cA A ad0 mc ms X H locs cells slots ws ls S' Y hc hs
  obtain ⟨_, rfl, Y1⟩ := tq_popL Y
  obtain ⟨_, rfl, Y2⟩ := tq_popL Y1
  exact lv_lxor X.1 X.2.1 hd (k X (tq_psh Y2 rfl) hc hs)
theorem tq_lneg (hd : decode M.2.1 pc = .ok (.lneg, 1)) {x : Int64} (k : tq_W l M d bc bs Q (pc + 1) L (.long (-x) :: S) h) : tq_W l M d bc bs Q pc L (.long x :: S) h := by
  intro p e R s m args below meth c D cA A ad0 mc ms X H locs cells slots ws ls S' Y hc hs
  obtain ⟨_, rfl, Y1⟩ := tq_popL Y
  exact lv_lneg X.1 X.2.1 hd (k X (tq_psh Y1 rfl) hc hs)
theorem tq_lshl (hd : decode M.2.1 pc = .ok (.lshl, 1)) {x : Int64} {y : Int32} (k : tq_W l M d bc bs Q (pc + 1) L (.long (x <<< (y.toInt64 &&& 63)) :: S) h) : tq_W l M d bc bs Q pc L (.int y :: .long x :: S) h := by
  intro p e R s m args below meth c D cA A ad0 mc ms X H locs cells slots ws ls S' Y hc hs
  obtain ⟨_, rfl, Y1⟩ := tq_popI Y
  obtain ⟨_, rfl, Y2⟩ := tq_popL Y1
  exact lv_lshl X.1 X.2.1 hd rfl (k X (tq_psh Y2 rfl) hc hs)
theorem tq_lshr (hd : decode M.2.1 pc = .ok (.lshr, 1)) {x : Int64} {y : Int32} (k : tq_W l M d bc bs Q (pc + 1) L (.long (x >>> (y.toInt64 &&& 63)) :: S) h) : tq_W l M d bc bs Q pc L (.int y :: .long x :: S) h := by
  intro p e R s m args below meth c D cA A ad0 mc ms X H locs cells slots ws ls S' Y hc hs
  obtain ⟨_, rfl, Y1⟩ := tq_popI Y
  obtain ⟨_, rfl, Y2⟩ := tq_popL Y1
  exact lv_lshr X.1 X.2.1 hd rfl (k X (tq_psh Y2 rfl) hc hs)
theorem tq_lushr (hd : decode M.2.1 pc = .ok (.lushr, 1)) {x : Int64} {y : Int32} (k : tq_W l M d bc bs Q (pc + 1) L (.long ((x.toUInt64 >>> (y.toInt64.toUInt64 &&& Int64.toUInt64 63)).toInt64) :: S) h) : tq_W l M d bc bs Q pc L (.int y :: .long x :: S) h := by
  intro p e R s m args below meth c D cA A ad0 mc ms X H locs cells slots ws ls S' Y hc hs
  obtain ⟨_, rfl, Y1⟩ := tq_popI Y
  obtain ⟨_, rfl, Y2⟩ := tq_popL Y1
  exact lv_lushr X.1 X.2.1 hd rfl (k X (tq_psh Y2 rfl) hc hs)
theorem tq_lcmp (hd : decode M.2.1 pc = .ok (.lcmp, 1)) {x y : Int64} (k : tq_W l M d bc bs Q (pc + 1) L (.int (lg_cmp x y) :: S) h) : tq_W l M d bc bs Q pc L (.long y :: .long x :: S) h := by
  intro p e R s m args below meth c D cA A ad0 mc ms X H locs cells slots ws ls S' Y hc hs
  obtain ⟨_, rfl, Y1⟩ := tq_popL Y
  obtain ⟨_, rfl, Y2⟩ := tq_popL Y1
  exact W.lcmp X.1 X.2.1 hd (k X (tq_psh Y2 rfl) hc hs)
theorem tq_i2l (hd : decode M.2.1 pc = .ok (.i2l, 1)) {x : Int32} (k : tq_W l M d bc bs Q (pc + 1) L (.long x.toInt64 :: S) h) : tq_W l M d bc bs Q pc L (.int x :: S) h := by
  intro p e R s m args below meth c D cA A ad0 mc ms X H locs cells slots ws ls S' Y hc hs
  obtain ⟨_, rfl, Y1⟩ := tq_popI Y
  exact lv_i2l X.1 X.2.1 hd rfl (k X (tq_psh Y1 rfl) hc hs)
theorem tq_l2i (hd : decode M.2.1 pc = .ok (.l2i, 1)) {x : Int64} (k : tq_W l M d bc bs Q (pc + 1) L (.int x.toInt32 :: S) h) : tq_W l M d bc bs Q pc L (.long x :: S) h := by
  intro p e R s m args below meth c D cA A ad0 mc ms X H locs cells slots ws ls S' Y hc hs
  obtain ⟨_, rfl, Y1⟩ := tq_popL Y
  exact lv_l2i X.1 X.2.1 hd rfl (k X (tq_psh Y1 rfl) hc hs)
theorem tq_iconst {n : Int} (hd : decode M.2.1 pc = .ok (.iconst n, 1)) {v : Int32} (hv : Int32.ofInt n = v) (k : tq_W l M d bc bs Q (pc + 1) L (.int v :: S) h) : tq_W l M d bc bs Q pc L (S) h := by
  intro p e R s m args below meth c D cA A ad0 mc ms X H locs cells slots ws ls S' Y hc hs
  exact lv_iconst X.1 X.2.1 hd hv (k X (tq_psh Y rfl) hc hs)
theorem tq_bipush {n : Int} (hd : decode M.2.1 pc = .ok (.bipush n, 2)) {v : Int32} (hv : (Int8.ofInt n).toInt32 = v) (k : tq_W l M d bc bs Q (pc + 2) L (.int v :: S) h) : tq_W l M d bc bs Q pc L (S) h := by
  intro p e R s m args below meth c D cA A ad0 mc ms X H locs cells slots ws ls S' Y hc hs
  exact lv_bipush X.1 X.2.1 hd hv (k X (tq_psh Y rfl) hc hs)
theorem tq_sipush {n : Int} (hd : decode M.2.1 pc = .ok (.sipush n, 3)) {v : Int32} (hv : (Int16.ofInt n).toInt32 = v) (k : tq_W l M d bc bs Q (pc + 3) L (.int v :: S) h) : tq_W l M d bc bs Q pc L (S) h := by
  intro p e R s m args below meth c D cA A ad0 mc ms X H locs cells slots ws ls S' Y hc hs
  exact lv_sipush X.1 X.2.1 hd hv (k X (tq_psh Y rfl) hc hs)
theorem tq_lconst {n : Fin 2} (hd : decode M.2.1 pc = .ok (.lconst n, 1)) {v : Int64} (hv : Int64.ofNat (n : Nat) = v) (k : tq_W l M d bc bs Q (pc + 1) L (.long v :: S) h) : tq_W l M d bc bs Q pc L (S) h := by
  intro p e R s m args below meth c D cA A ad0 mc ms X H locs cells slots ws ls S' Y hc hs
  exact lv_lconst X.1 X.2.1 hd hv (k X (tq_psh Y rfl) hc hs)
theorem tq_null (hd : decode M.2.1 pc = .ok (.aconst_null, 1)) (k : tq_W l M d bc bs Q (pc + 1) L (.null :: S) h) : tq_W l M d bc bs Q pc L (S) h := by
  intro p e R s m args below meth c D cA A ad0 mc ms X H locs cells slots ws ls S' Y hc hs
  exact lv_null X.1 X.2.1 hd (k X (tq_psh Y rfl) hc hs)
theorem tq_ldc2 {i : Nat} (hd : decode M.2.1 pc = .ok (.ldc2_w i, 3)) {v : Int64} (hw : Cond.constantLong M.1 i v ∈ tq_G) (k : tq_W l M d bc bs Q (pc + 3) L (.long v :: S) h) : tq_W l M d bc bs Q pc L (S) h := by
  intro p e R s m args below meth c D cA A ad0 mc ms X H locs cells slots ws ls S' Y hc hs
  exact lv_ldc2 X.1 X.2.1 X.2.2.2.2.2.1 (X.2.2.2.2.2.2.1 _ hw) hd (k X (tq_psh Y rfl) hc hs)
theorem tq_iload_n {n : Fin 4} (hd : decode M.2.1 pc = .ok (.iload_n n, 1)) {x : Int32} (hl : L.lookup (n : Nat) = some (.int x)) (k : tq_W l M d bc bs Q (pc + 1) L (.int x :: S) h) : tq_W l M d bc bs Q pc L (S) h := by
  intro p e R s m args below meth c D cA A ad0 mc ms X H locs cells slots ws ls S' Y hc hs
  obtain ⟨w, h1, h2⟩ := tq_loc Y hl
  cases (show w = .int x from h2)
  exact lv_iload_n X.1 X.2.1 hd rfl h1 (k X (tq_psh Y rfl) hc hs)
theorem tq_iload {i : Nat} (hd : decode M.2.1 pc = .ok (.iload i, 2)) {x : Int32} (hl : L.lookup i = some (.int x)) (k : tq_W l M d bc bs Q (pc + 2) L (.int x :: S) h) : tq_W l M d bc bs Q pc L (S) h := by
  intro p e R s m args below meth c D cA A ad0 mc ms X H locs cells slots ws ls S' Y hc hs
  obtain ⟨w, h1, h2⟩ := tq_loc Y hl
  cases (show w = .int x from h2)
  exact lv_iload X.1 X.2.1 hd h1 (k X (tq_psh Y rfl) hc hs)
theorem tq_lload_n {n : Fin 4} (hd : decode M.2.1 pc = .ok (.lload_n n, 1)) {x : Int64} (hl : L.lookup (n : Nat) = some (.long x)) (k : tq_W l M d bc bs Q (pc + 1) L (.long x :: S) h) : tq_W l M d bc bs Q pc L (S) h := by
  intro p e R s m args below meth c D cA A ad0 mc ms X H locs cells slots ws ls S' Y hc hs
  obtain ⟨w, h1, h2⟩ := tq_loc Y hl
  cases (show w = .long x from h2)
  exact lv_lload_n X.1 X.2.1 hd rfl h1 (k X (tq_psh Y rfl) hc hs)
theorem tq_lload {i : Nat} (hd : decode M.2.1 pc = .ok (.lload i, 2)) {x : Int64} (hl : L.lookup i = some (.long x)) (k : tq_W l M d bc bs Q (pc + 2) L (.long x :: S) h) : tq_W l M d bc bs Q pc L (S) h := by
  intro p e R s m args below meth c D cA A ad0 mc ms X H locs cells slots ws ls S' Y hc hs
  obtain ⟨w, h1, h2⟩ := tq_loc Y hl
  cases (show w = .long x from h2)
  exact lv_lload X.1 X.2.1 hd h1 (k X (tq_psh Y rfl) hc hs)
theorem tq_aload_n {n : Fin 4} (hd : decode M.2.1 pc = .ok (.aload_n n, 1)) {x : Nat} (hl : L.lookup (n : Nat) = some (.ref x)) (k : tq_W l M d bc bs Q (pc + 1) L (.ref x :: S) h) : tq_W l M d bc bs Q pc L (S) h := by
  intro p e R s m args below meth c D cA A ad0 mc ms X H locs cells slots ws ls S' Y hc hs
  obtain ⟨w, h1, a, h2, h3⟩ := tq_loc Y hl
  cases h3
  exact lv_aload_n X.1 X.2.1 hd rfl h1 (k X (tq_psh Y ⟨a, h2, rfl⟩) hc hs)
theorem tq_aload {i : Nat} (hd : decode M.2.1 pc = .ok (.aload i, 2)) {x : Nat} (hl : L.lookup i = some (.ref x)) (k : tq_W l M d bc bs Q (pc + 2) L (.ref x :: S) h) : tq_W l M d bc bs Q pc L (S) h := by
  intro p e R s m args below meth c D cA A ad0 mc ms X H locs cells slots ws ls S' Y hc hs
  obtain ⟨w, h1, a, h2, h3⟩ := tq_loc Y hl
  cases h3
  exact lv_aload X.1 X.2.1 hd h1 (k X (tq_psh Y ⟨a, h2, rfl⟩) hc hs)
theorem tq_istore_n {n : Fin 4} {i : Nat} (hi : (n : Nat) = i) (hd : decode M.2.1 pc = .ok (.istore_n n, 1)) {x : Int32} {L2 : List (Nat × Value)} (hn : i < M.2.2.1) (hL : tq_st1 L i (.int x) = L2) (k : tq_W l M d bc bs Q (pc + 1) L2 (S) h) : tq_W l M d bc bs Q pc L (.int x :: S) h := by
  intro p e R s m args below meth c D cA A ad0 mc ms X H locs cells slots ws ls S' Y hc hs
  obtain ⟨_, rfl, Y1⟩ := tq_popI Y
  subst hL
  obtain ⟨L', h1, h2⟩ := Y1.2.2.2.2.2.1
  exact lv_istore_n X.1 X.2.1 hd hi h1 hn rfl (fun ls2 q => k X (tq_dyl Y1 ⟨_, q, tq_al_st1 h2 i rfl⟩) hc hs)
theorem tq_istore {i : Nat} (hd : decode M.2.1 pc = .ok (.istore i, 2)) {x : Int32} {L2 : List (Nat × Value)} (hn : i < M.2.2.1) (hL : tq_st1 L i (.int x) = L2) (k : tq_W l M d bc bs Q (pc + 2) L2 (S) h) : tq_W l M d bc bs Q pc L (.int x :: S) h := by
  intro p e R s m args below meth c D cA A ad0 mc ms X H locs cells slots ws ls S' Y hc hs
  obtain ⟨_, rfl, Y1⟩ := tq_popI Y
  subst hL
  obtain ⟨L', h1, h2⟩ := Y1.2.2.2.2.2.1
  exact lv_istore X.1 X.2.1 hd h1 hn rfl (fun ls2 q => k X (tq_dyl Y1 ⟨_, q, tq_al_st1 h2 i rfl⟩) hc hs)
theorem tq_lstore_n {n : Fin 4} {i : Nat} (hi : (n : Nat) = i) (hd : decode M.2.1 pc = .ok (.lstore_n n, 1)) {x : Int64} {L2 : List (Nat × Value)} (hn : i + 1 < M.2.2.1) (hL : tq_st2 L i (.long x) = L2) (k : tq_W l M d bc bs Q (pc + 1) L2 (S) h) : tq_W l M d bc bs Q pc L (.long x :: S) h := by
  intro p e R s m args below meth c D cA A ad0 mc ms X H locs cells slots ws ls S' Y hc hs
  obtain ⟨_, rfl, Y1⟩ := tq_popL Y
  subst hL
  obtain ⟨L', h1, h2⟩ := Y1.2.2.2.2.2.1
  exact lv_lstore_n X.1 X.2.1 hd hi h1 hn rfl (fun ls2 q => k X (tq_dyl Y1 ⟨_, q, tq_al_st2 h2 i rfl⟩) hc hs)
theorem tq_lstore {i : Nat} (hd : decode M.2.1 pc = .ok (.lstore i, 2)) {x : Int64} {L2 : List (Nat × Value)} (hn : i + 1 < M.2.2.1) (hL : tq_st2 L i (.long x) = L2) (k : tq_W l M d bc bs Q (pc + 2) L2 (S) h) : tq_W l M d bc bs Q pc L (.long x :: S) h := by
  intro p e R s m args below meth c D cA A ad0 mc ms X H locs cells slots ws ls S' Y hc hs
  obtain ⟨_, rfl, Y1⟩ := tq_popL Y
  subst hL
  obtain ⟨L', h1, h2⟩ := Y1.2.2.2.2.2.1
  exact lv_lstore X.1 X.2.1 hd h1 hn rfl (fun ls2 q => k X (tq_dyl Y1 ⟨_, q, tq_al_st2 h2 i rfl⟩) hc hs)
theorem tq_astore_n {n : Fin 4} {i : Nat} (hi : (n : Nat) = i) (hd : decode M.2.1 pc = .ok (.astore_n n, 1)) {x : Nat} {L2 : List (Nat × Value)} (hn : i < M.2.2.1) (hL : tq_st1 L i (.ref x) = L2) (k : tq_W l M d bc bs Q (pc + 1) L2 (S) h) : tq_W l M d bc bs Q pc L (.ref x :: S) h := by
  intro p e R s m args below meth c D cA A ad0 mc ms X H locs cells slots ws ls S' Y hc hs
  obtain ⟨w, S1, rfl, ⟨a, h3, rfl⟩, Y1⟩ := tq_pop Y
  subst hL
  obtain ⟨L', h1, h2⟩ := Y1.2.2.2.2.2.1
  exact lv_astore_n X.1 X.2.1 hd hi h1 hn rfl (fun ls2 q => k X (tq_dyl Y1 ⟨_, q, tq_al_st1 h2 i ⟨a, h3, rfl⟩⟩) hc hs)
theorem tq_xstore_n {n : Fin 4} {i : Nat} (hi : (n : Nat) = i) (hd : decode M.2.1 pc = .ok (.astore_n n, 1)) {x : UInt32} {L2 : List (Nat × Value)} (hn : i < M.2.2.1) (hL : tq_st1 L i (.float x) = L2) (k : tq_W l M d bc bs Q (pc + 1) L2 (S) h) : tq_W l M d bc bs Q pc L (.float x :: S) h := by
  intro p e R s m args below meth c D cA A ad0 mc ms X H locs cells slots ws ls S' Y hc hs
  obtain ⟨w, S1, rfl, ⟨a, rfl⟩, Y1⟩ := tq_pop Y
  subst hL
  obtain ⟨L', h1, h2⟩ := Y1.2.2.2.2.2.1
  exact lv_astore_n X.1 X.2.1 hd hi h1 hn rfl (fun ls2 q => k X (tq_dyl Y1 ⟨_, q, tq_al_st1 h2 i ⟨a, rfl⟩⟩) hc hs)
theorem tq_astore {i : Nat} (hd : decode M.2.1 pc = .ok (.astore i, 2)) {x : Nat} {L2 : List (Nat × Value)} (hn : i < M.2.2.1) (hL : tq_st1 L i (.ref x) = L2) (k : tq_W l M d bc bs Q (pc + 2) L2 (S) h) : tq_W l M d bc bs Q pc L (.ref x :: S) h := by
  intro p e R s m args below meth c D cA A ad0 mc ms X H locs cells slots ws ls S' Y hc hs
  obtain ⟨w, S1, rfl, ⟨a, h3, rfl⟩, Y1⟩ := tq_pop Y
  subst hL
  obtain ⟨L', h1, h2⟩ := Y1.2.2.2.2.2.1
  exact lv_astore X.1 X.2.1 hd h1 hn rfl (fun ls2 q => k X (tq_dyl Y1 ⟨_, q, tq_al_st1 h2 i ⟨a, h3, rfl⟩⟩) hc hs)
theorem tq_xstore {i : Nat} (hd : decode M.2.1 pc = .ok (.astore i, 2)) {x : UInt32} {L2 : List (Nat × Value)} (hn : i < M.2.2.1) (hL : tq_st1 L i (.float x) = L2) (k : tq_W l M d bc bs Q (pc + 2) L2 (S) h) : tq_W l M d bc bs Q pc L (.float x :: S) h := by
  intro p e R s m args below meth c D cA A ad0 mc ms X H locs cells slots ws ls S' Y hc hs
  obtain ⟨w, S1, rfl, ⟨a, rfl⟩, Y1⟩ := tq_pop Y
  subst hL
  obtain ⟨L', h1, h2⟩ := Y1.2.2.2.2.2.1
  exact lv_astore X.1 X.2.1 hd h1 hn rfl (fun ls2 q => k X (tq_dyl Y1 ⟨_, q, tq_al_st1 h2 i ⟨a, rfl⟩⟩) hc hs)
theorem tq_iinc {i : Nat} {n : Int} (hd : decode M.2.1 pc = .ok (.iinc i n, 3)) {x v : Int32} {L2 : List (Nat × Value)} (hl : L.lookup i = some (.int x)) (hv : x + Int32.ofInt n = v) (hn : i < M.2.2.1) (hL : tq_st1 L i (.int v) = L2) (k : tq_W l M d bc bs Q (pc + 3) L2 (S) h) : tq_W l M d bc bs Q pc L (S) h := by
  intro p e R s m args below meth c D cA A ad0 mc ms X H locs cells slots ws ls S' Y hc hs
  subst hL
  obtain ⟨L', h1, h2⟩ := Y.2.2.2.2.2.1
  obtain ⟨v', h3, h4⟩ := tq_al_at h2 hl
  cases (show v' = .int x from h4)
  obtain ⟨q, hq⟩ := List.getElem?_of_mem h3
  exact lv_iinc X.1 X.2.1 hd h1 hq hv hn rfl (fun ls2 q => k X (tq_dyl Y ⟨_, q, tq_al_st1 h2 i rfl⟩) hc hs)
theorem tq_dup (hd : decode M.2.1 pc = .ok (.dup, 1)) {v : Value} (hv : v.category = 1) (k : tq_W l M d bc bs Q (pc + 1) L (v :: v :: S) h) : tq_W l M d bc bs Q pc L (v :: S) h := by
  intro p e R s m args below meth c D cA A ad0 mc ms X H locs cells slots ws ls S' Y hc hs
  obtain ⟨w, S1, rfl, r, Y1⟩ := tq_pop Y
  exact lv_dup X.1 X.2.1 hd (r.cat.symm.trans hv) (k X (tq_psh (tq_psh Y1 r) r) hc hs)
theorem tq_dup2 (hd : decode M.2.1 pc = .ok (.dup2, 1)) {v u : Value} (hv : v.category = 1) (hu : u.category = 1) (k : tq_W l M d bc bs Q (pc + 1) L (v :: u :: v :: u :: S) h) : tq_W l M d bc bs Q pc L (v :: u :: S) h := by
  intro p e R s m args below meth c D cA A ad0 mc ms X H locs cells slots ws ls S' Y hc hs
  obtain ⟨w, S1, rfl, r, Y1⟩ := tq_pop Y
  obtain ⟨w2, S2, rfl, r2, Y2⟩ := tq_pop Y1
  exact lv_dup2_11 X.1 X.2.1 hd (r.cat.symm.trans hv) (r2.cat.symm.trans hu) (k X (tq_psh (tq_psh (tq_psh (tq_psh Y2 r2) r) r2) r) hc hs)
theorem tq_pop_ (hd : decode M.2.1 pc = .ok (.pop, 1)) {v : Value} (hv : v.category = 1) (k : tq_W l M d bc bs Q (pc + 1) L (S) h) : tq_W l M d bc bs Q pc L (v :: S) h := by
  intro p e R s m args below meth c D cA A ad0 mc ms X H locs cells slots ws ls S' Y hc hs
  obtain ⟨w, S1, rfl, r, Y1⟩ := tq_pop Y
  exact lv_pop X.1 X.2.1 hd (r.cat.symm.trans hv) (k X Y1 hc hs)
theorem tq_if_eq {off : Int} {tgt : Nat} (hd : decode M.2.1 pc = .ok (.ifCond .eq off, 3)) (ht : (pc : Int) + off = (tgt : Int)) {x : Int32} (kt : x = 0 → tq_W l M d bc bs Q tgt L S h) (kf : ¬ (x = 0) → tq_W l M d bc bs Q (pc + 3) L S h) : tq_W l M d bc bs Q pc L (.int x :: S) h := by
  intro p e R s m args below meth c D cA A ad0 mc ms X H locs cells slots ws ls S' Y hc hs
  obtain ⟨_, rfl, Y1⟩ := tq_popI Y
  exact lv_if_eq X.1 X.2.1 hd ht (fun q => kt q X Y1 hc hs) (fun q => kf q X Y1 hc hs)
theorem tq_icmp_eq {off : Int} {tgt : Nat} (hd : decode M.2.1 pc = .ok (.if_icmp .eq off, 3)) (ht : (pc : Int) + off = (tgt : Int)) {x y : Int32} (kt : x = y → tq_W l M d bc bs Q tgt L S h) (kf : ¬ (x = y) → tq_W l M d bc bs Q (pc + 3) L S h) : tq_W l M d bc bs Q pc L (.int y :: .int x :: S) h := by
  intro p e R s m args below meth c D cA A ad0 mc ms X H locs cells slots ws ls S' Y hc hs
  obtain ⟨_, rfl, Y1⟩ := tq_popI Y
  obtain ⟨_, rfl, Y2⟩ := tq_popI Y1
  exact lv_icmp_eq X.1 X.2.1 hd ht (fun q => kt q X Y2 hc hs) (fun q => kf q X Y2 hc hs)
theorem tq_if_ne {off : Int} {tgt : Nat} (hd : decode M.2.1 pc = .ok (.ifCond .ne off, 3)) (ht : (pc : Int) + off = (tgt : Int)) {x : Int32} (kt : ¬ x = 0 → tq_W l M d bc bs Q tgt L S h) (kf : x = 0 → tq_W l M d bc bs Q (pc + 3) L S h) : tq_W l M d bc bs Q pc L (.int x :: S) h := by
  intro p e R s m args below meth c D cA A ad0 mc ms X H locs cells slots ws ls S' Y hc hs
  obtain ⟨_, rfl, Y1⟩ := tq_popI Y
  exact lv_if_ne X.1 X.2.1 hd ht (fun q => kt q X Y1 hc hs) (fun q => kf q X Y1 hc hs)
theorem tq_icmp_ne {off : Int} {tgt : Nat} (hd : decode M.2.1 pc = .ok (.if_icmp .ne off, 3)) (ht : (pc : Int) + off = (tgt : Int)) {x y : Int32} (kt : ¬ x = y → tq_W l M d bc bs Q tgt L S h) (kf : x = y → tq_W l M d bc bs Q (pc + 3) L S h) : tq_W l M d bc bs Q pc L (.int y :: .int x :: S) h := by
  intro p e R s m args below meth c D cA A ad0 mc ms X H locs cells slots ws ls S' Y hc hs
  obtain ⟨_, rfl, Y1⟩ := tq_popI Y
  obtain ⟨_, rfl, Y2⟩ := tq_popI Y1
  exact lv_icmp_ne X.1 X.2.1 hd ht (fun q => kt q X Y2 hc hs) (fun q => kf q X Y2 hc hs)
theorem tq_if_lt {off : Int} {tgt : Nat} (hd : decode M.2.1 pc = .ok (.ifCond .lt off, 3)) (ht : (pc : Int) + off = (tgt : Int)) {x : Int32} (kt : x < 0 → tq_W l M d bc bs Q tgt L S h) (kf : ¬ (x < 0) → tq_W l M d bc bs Q (pc + 3) L S h) : tq_W l M d bc bs Q pc L (.int x :: S) h := by
  intro p e R s m args below meth c D cA A ad0 mc ms X H locs cells slots ws ls S' Y hc hs
  obtain ⟨_, rfl, Y1⟩ := tq_popI Y
  exact lv_if_lt X.1 X.2.1 hd ht (fun q => kt q X Y1 hc hs) (fun q => kf q X Y1 hc hs)
theorem tq_icmp_lt {off : Int} {tgt : Nat} (hd : decode M.2.1 pc = .ok (.if_icmp .lt off, 3)) (ht : (pc : Int) + off = (tgt : Int)) {x y : Int32} (kt : x < y → tq_W l M d bc bs Q tgt L S h) (kf : ¬ (x < y) → tq_W l M d bc bs Q (pc + 3) L S h) : tq_W l M d bc bs Q pc L (.int y :: .int x :: S) h := by
  intro p e R s m args below meth c D cA A ad0 mc ms X H locs cells slots ws ls S' Y hc hs
  obtain ⟨_, rfl, Y1⟩ := tq_popI Y
  obtain ⟨_, rfl, Y2⟩ := tq_popI Y1
  exact lv_icmp_lt X.1 X.2.1 hd ht (fun q => kt q X Y2 hc hs) (fun q => kf q X Y2 hc hs)
theorem tq_if_ge {off : Int} {tgt : Nat} (hd : decode M.2.1 pc = .ok (.ifCond .ge off, 3)) (ht : (pc : Int) + off = (tgt : Int)) {x : Int32} (kt : 0 ≤ x → tq_W l M d bc bs Q tgt L S h) (kf : ¬ (0 ≤ x) → tq_W l M d bc bs Q (pc + 3) L S h) : tq_W l M d bc bs Q pc L (.int x :: S) h := by
  intro p e R s m args below meth c D cA A ad0 mc ms X H locs cells slots ws ls S' Y hc hs
  obtain ⟨_, rfl, Y1⟩ := tq_popI Y
  exact lv_if_ge X.1 X.2.1 hd ht (fun q => kt q X Y1 hc hs) (fun q => kf q X Y1 hc hs)
theorem tq_icmp_ge {off : Int} {tgt : Nat} (hd : decode M.2.1 pc = .ok (.if_icmp .ge off, 3)) (ht : (pc : Int) + off = (tgt : Int)) {x y : Int32} (kt : y ≤ x → tq_W l M d bc bs Q tgt L S h) (kf : ¬ (y ≤ x) → tq_W l M d bc bs Q (pc + 3) L S h) : tq_W l M d bc bs Q pc L (.int y :: .int x :: S) h := by
  intro p e R s m args below meth c D cA A ad0 mc ms X H locs cells slots ws ls S' Y hc hs
  obtain ⟨_, rfl, Y1⟩ := tq_popI Y
  obtain ⟨_, rfl, Y2⟩ := tq_popI Y1
  exact lv_icmp_ge X.1 X.2.1 hd ht (fun q => kt q X Y2 hc hs) (fun q => kf q X Y2 hc hs)
theorem tq_if_gt {off : Int} {tgt : Nat} (hd : decode M.2.1 pc = .ok (.ifCond .gt off, 3)) (ht : (pc : Int) + off = (tgt : Int)) {x : Int32} (kt : 0 < x → tq_W l M d bc bs Q tgt L S h) (kf : ¬ (0 < x) → tq_W l M d bc bs Q (pc + 3) L S h) : tq_W l M d bc bs Q pc L (.int x :: S) h := by
  intro p e R s m args below meth c D cA A ad0 mc ms X H locs cells slots ws ls S' Y hc hs
  obtain ⟨_, rfl, Y1⟩ := tq_popI Y
  exact lv_if_gt X.1 X.2.1 hd ht (fun q => kt q X Y1 hc hs) (fun q => kf q X Y1 hc hs)
theorem tq_icmp_gt {off : Int} {tgt : Nat} (hd : decode M.2.1 pc = .ok (.if_icmp .gt off, 3)) (ht : (pc : Int) + off = (tgt : Int)) {x y : Int32} (kt : y < x → tq_W l M d bc bs Q tgt L S h) (kf : ¬ (y < x) → tq_W l M d bc bs Q (pc + 3) L S h) : tq_W l M d bc bs Q pc L (.int y :: .int x :: S) h := by
  intro p e R s m args below meth c D cA A ad0 mc ms X H locs cells slots ws ls S' Y hc hs
  obtain ⟨_, rfl, Y1⟩ := tq_popI Y
  obtain ⟨_, rfl, Y2⟩ := tq_popI Y1
  exact lv_icmp_gt X.1 X.2.1 hd ht (fun q => kt q X Y2 hc hs) (fun q => kf q X Y2 hc hs)
theorem tq_if_le {off : Int} {tgt : Nat} (hd : decode M.2.1 pc = .ok (.ifCond .le off, 3)) (ht : (pc : Int) + off = (tgt : Int)) {x : Int32} (kt : x ≤ 0 → tq_W l M d bc bs Q tgt L S h) (kf : ¬ (x ≤ 0) → tq_W l M d bc bs Q (pc + 3) L S h) : tq_W l M d bc bs Q pc L (.int x :: S) h := by
  intro p e R s m args below meth c D cA A ad0 mc ms X H locs cells slots ws ls S' Y hc hs
  obtain ⟨_, rfl, Y1⟩ := tq_popI Y
  exact lv_if_le X.1 X.2.1 hd ht (fun q => kt q X Y1 hc hs) (fun q => kf q X Y1 hc hs)
theorem tq_icmp_le {off : Int} {tgt : Nat} (hd : decode M.2.1 pc = .ok (.if_icmp .le off, 3)) (ht : (pc : Int) + off = (tgt : Int)) {x y : Int32} (kt : x ≤ y → tq_W l M d bc bs Q tgt L S h) (kf : ¬ (x ≤ y) → tq_W l M d bc bs Q (pc + 3) L S h) : tq_W l M d bc bs Q pc L (.int y :: .int x :: S) h := by
  intro p e R s m args below meth c D cA A ad0 mc ms X H locs cells slots ws ls S' Y hc hs
  obtain ⟨_, rfl, Y1⟩ := tq_popI Y
  obtain ⟨_, rfl, Y2⟩ := tq_popI Y1
  exact lv_icmp_le X.1 X.2.1 hd ht (fun q => kt q X Y2 hc hs) (fun q => kf q X Y2 hc hs)
theorem tq_goto {off : Int} {tgt : Nat} (hd : decode M.2.1 pc = .ok (.goto off, 3)) (ht : (pc : Int) + off = (tgt : Int)) (k : tq_W l M d bc bs Q tgt L S h) : tq_W l M d bc bs Q pc L S h := by
  intro p e R s m args below meth c D cA A ad0 mc ms X H locs cells slots ws ls S' Y hc hs
  exact lv_goto X.1 X.2.1 hd ht (k X Y hc hs)
theorem tq_ifnonnull {off : Int} {tgt : Nat} (hd : decode M.2.1 pc = .ok (.ifnonnull off, 3)) (ht : (pc : Int) + off = (tgt : Int)) {x : Nat} (k : tq_W l M d bc bs Q tgt L S h) : tq_W l M d bc bs Q pc L (.ref x :: S) h := by
  intro p e R s m args below meth c D cA A ad0 mc ms X H locs cells slots ws ls S' Y hc hs
  obtain ⟨w, S1, rfl, ⟨a, h3, rfl⟩, Y1⟩ := tq_pop Y
  exact lv_ifnonnull X.1 X.2.1 hd ht (k X Y1 hc hs)
theorem tq_ifnonnullN {off : Int} (hd : decode M.2.1 pc = .ok (.ifnonnull off, 3)) (k : tq_W l M d bc bs Q (pc + 3) L S h) : tq_W l M d bc bs Q pc L (.null :: S) h := by
  intro p e R s m args below meth c D cA A ad0 mc ms X H locs cells slots ws ls S' Y hc hs
  obtain ⟨_, rfl, Y1⟩ := tq_popN Y
  exact lv_ifnonnullN X.1 X.2.1 hd (k X Y1 hc hs)
theorem tq_table {dflt lo hi : Int} {offs : Array Int} {len : Nat} {x : Int32} (hd : decode M.2.1 pc = .ok (.tableswitch dflt lo hi offs, len)) {td : Nat} (ht : (pc : Int) + dflt = (td : Int)) (ko : (x.toInt < lo ∨ hi < x.toInt) → tq_W l M d bc bs Q td L S h)
    (ki : ∀ (j : Nat) (off : Int), x.toInt = lo + j → offs[j]? = some off → ∃ tgt : Nat, (pc : Int) + off = (tgt : Int) ∧ tq_W l M d bc bs Q tgt L S h) (hsz : hi < lo + offs.size) : tq_W l M d bc bs Q pc L (.int x :: S) h := by
  intro p e R s m args below meth c D cA A ad0 mc ms X H locs cells slots ws ls S' Y hc hs
  obtain ⟨_, rfl, Y1⟩ := tq_popI Y
  by_cases q1 : x.toInt < lo
  · exact lv_tableOut X.1 X.2.1 hd (Or.inl q1) ht (ko (Or.inl q1) X Y1 hc hs)
  · by_cases q2 : hi < x.toInt
    · exact lv_tableOut X.1 X.2.1 hd (Or.inr q2) ht (ko (Or.inr q2) X Y1 hc hs)
    · have hj : (x.toInt - lo).toNat < offs.size := by omega
      have ho : offs[(x.toInt - lo).toNat]? = some offs[(x.toInt - lo).toNat] := Array.getElem?_eq_getElem hj
      obtain ⟨tgt, t1, t2⟩ := ki (x.toInt - lo).toNat _ (by omega) ho
      exact lv_tableIn X.1 X.2.1 hd q1 q2 ho t1 (t2 X Y1 hc hs)
end TQ2
