/-! ===== printed by wip/p58/tools/gen_sim.py: the class in two worlds ===== -/
section SY
variable {r : Nat → Nat} {d : Nat → Prop} {W0 H0 : tq_H} {al : Prop}
set_option maxHeartbeats 2000000 in
theorem y_X0_one {a0 : Int32} {h h' : tq_H} (gh : (Em r d W0 H0 al) h h') : Sm Eq (f_X0_one a0 h) (f_X0_one a0 h') := by
  unfold f_X0_one
  refine Sm.l ?_
  exact Sm.s rfl
set_option maxHeartbeats 2000000 in
theorem y_X0_below {a0 : Int32} {h h' : tq_H} (gh : (Em r d W0 H0 al) h h') : Sm Eq (f_X0_below a0 h) (f_X0_below a0 h') := by
  unfold f_X0_below
  refine Sm.i ?_ ?_
  · refine Sm.l ?_
    exact Sm.s rfl
  · exact Sm.s rfl
set_option maxHeartbeats 2000000 in
theorem y_X0_holds {a0 : Int64} {a2 : Int32} {h h' : tq_H} (gh : (Em r d W0 H0 al) h h') : Sm Eq (f_X0_holds a0 a2 h) (f_X0_holds a0 a2 h') := by
  unfold f_X0_holds
  refine Sm.l ?_
  refine Sm.b (Sm.r) ?_
  rintro z2 _ rfl
  exact Sm.s rfl
set_option maxHeartbeats 2000000 in
theorem y_J13_bitCount_95d88 {a0 : Int64} {h h' : tq_H} (gh : (Em r d W0 H0 al) h h') : Sm Eq (f_J13_bitCount_95d88 a0 h) (f_J13_bitCount_95d88 a0 h') := by
  unfold f_J13_bitCount_95d88
  refine Sm.l ?_
  refine Sm.l ?_
  refine Sm.l ?_
  refine Sm.l ?_
  refine Sm.l ?_
  refine Sm.l ?_
  exact Sm.s rfl
set_option maxHeartbeats 2000000 in
theorem y_X0_lowest {a0 : Int64} {h h' : tq_H} (gh : (Em r d W0 H0 al) h h') : Sm Eq (f_X0_lowest a0 h) (f_X0_lowest a0 h') := by
  unfold f_X0_lowest
  refine Sm.b (R := Eq) ?_ ?_
  · refine Sm.i ?_ ?_
    · exact Sm.s rfl
    · refine Sm.b (y_J13_bitCount_95d88 gh) ?_
      rintro v1 _ rfl
      exact Sm.s rfl
  · rintro p2 _ rfl
    exact Sm.s rfl
set_option maxHeartbeats 2000000 in
theorem y_X0_memberAt_b19 {i2 : Int32} {hh hh' : tq_H} (ghh : (Em r d W0 H0 al) hh hh') : ∀ s s', (Rp Eq Eq) s s' → Sm (Ru (Rp Eq Eq) Eq) (f_X0_memberAt_b19 i2 hh s) (f_X0_memberAt_b19 i2 hh' s') := by
  rintro ⟨y3, y5⟩ ⟨_, _⟩ ⟨rfl, rfl⟩
  dsimp only [f_X0_memberAt_b19]
  refine Sm.i ?_ ?_
  · exact Sm.s (Ru.r rfl)
  · refine Sm.l ?_
    refine Sm.l ?_
    exact Sm.s (Ru.l (Rp.i rfl rfl))
set_option maxHeartbeats 2000000 in
theorem y_X0_memberAt {a0 : Int64} {a2 : Int32} {h h' : tq_H} (gh : (Em r d W0 H0 al) h h') : Sm Eq (f_X0_memberAt a0 a2 h) (f_X0_memberAt a0 a2 h') := by
  unfold f_X0_memberAt
  refine Sm.i ?_ ?_
  · exact Sm.s rfl
  · refine Sm.b (y_J13_bitCount_95d88 gh) ?_
    rintro v1 _ rfl
    refine Sm.i ?_ ?_
    · refine Sm.b (Sm.w (y_X0_memberAt_b19 gh) tq_N (Rp.i rfl rfl)) ?_
      rintro o4 _ rfl
      refine Sm.b (y_X0_lowest gh) ?_
      rintro v5 _ rfl
      exact Sm.s rfl
    · exact Sm.s rfl
set_option maxHeartbeats 2000000 in
theorem y_X0_agrees {a0 : Int32} {a1 : Int32} {a2 : Int32} {h h' : tq_H} (gh : (Em r d W0 H0 al) h h') : Sm Eq (f_X0_agrees a0 a1 a2 h) (f_X0_agrees a0 a1 a2 h') := by
  unfold f_X0_agrees
  refine Sm.i ?_ ?_
  · refine Sm.l ?_
    refine Sm.b (Sm.r) ?_
    rintro z4 _ rfl
    exact Sm.s rfl
  · refine Sm.l ?_
    refine Sm.b (Sm.r) ?_
    rintro z2 _ rfl
    exact Sm.s rfl
set_option maxHeartbeats 2000000 in
theorem y_J7_fill_53178_b5 {i0 i0' : Nat} {i1 : Int32} {i3 : Int32} (gi0 : (Rr r d) i0 i0') : ∀ s s', (Rp Eq (Em r d W0 H0 al)) s s' → Sm (Ru (Rp Eq (Em r d W0 H0 al)) (Em r d W0 H0 al)) (f_J7_fill_53178_b5 i0 i1 i3 s) (f_J7_fill_53178_b5 i0' i1 i3 s') := by
  rintro ⟨y2, hh⟩ ⟨_, hh'⟩ ⟨rfl, ghh⟩
  dsimp only [f_J7_fill_53178_b5]
  refine Sm.i ?_ ?_
  · exact Sm.s (Ru.r ghh)
  · refine Sm.b (Sm.si ghh gi0) ?_
    rintro w2 w2' gw2
    refine Sm.l ?_
    exact Sm.s (Ru.l (Rp.i rfl gw2))
set_option maxHeartbeats 2000000 in
theorem y_J7_fill_53178 {a0 a0' : Nat} {a1 : Int32} {h h' : tq_H} (ga0 : (Rr r d) a0 a0') (gh : (Em r d W0 H0 al) h h') : Sm (Em r d W0 H0 al) (f_J7_fill_53178 a0 a1 h) (f_J7_fill_53178 a0' a1 h') := by
  unfold f_J7_fill_53178
  refine Sm.b (Sm.an gh ga0) ?_
  rintro x1 _ rfl
  refine Sm.b (Sm.w (y_J7_fill_53178_b5 ga0) tq_N (Rp.i rfl gh)) ?_
  rintro o4 o4' go4
  exact Sm.s go4
set_option maxHeartbeats 2000000 in
theorem y_X5_init {t t' : Nat} {a1 : Int32} {a2 : Int32} {h h' : tq_H} (ha : al) (gt : (Rr r d) t t') (gh : (Em r d W0 H0 al) h h') : Sm (Em r d W0 H0 al) (f_X5_init t a1 a2 h) (f_X5_init t' a1 a2 h') := by
  unfold f_X5_init
  refine Sm.l ?_
  refine Sm.b (Sm.r) ?_
  rintro N9 _ rfl
  refine Sm.n ha gh okO_i (fun w2 w2' gw2 => ?_)
  refine Sm.b (Sm.pf gw2 gt (okV_r (gh.nr ha))) ?_
  rintro w3 w3' gw3
  refine Sm.b (Sm.gr gw3 gt) ?_
  rintro k4 k4' gk4
  refine Sm.b (y_J7_fill_53178 gk4 gw3) ?_
  rintro v5 v5' gv5
  exact Sm.s gv5
set_option maxHeartbeats 2000000 in
theorem y_X5_get {t t' : Nat} {a1 : Int32} {h h' : tq_H} (gt : (Rr r d) t t') (gh : (Em r d W0 H0 al) h h') : Sm Eq (f_X5_get t a1 h) (f_X5_get t' a1 h') := by
  unfold f_X5_get
  refine Sm.b (R := Eq) ?_ ?_
  · refine Sm.i ?_ ?_
    · exact Sm.s rfl
    · refine Sm.b (Sm.gr gh gt) ?_
      rintro k1 k1' gk1
      refine Sm.b (Sm.an gh gk1) ?_
      rintro x2 _ rfl
      refine Sm.i ?_ ?_
      · exact Sm.s rfl
      · refine Sm.b (Sm.gr gh gt) ?_
        rintro k3 k3' gk3
        refine Sm.b (Sm.ai gh gk3) ?_
        rintro x4 _ rfl
        exact Sm.s rfl
  · rintro p5 _ rfl
    exact Sm.s rfl
set_option maxHeartbeats 2000000 in
theorem y_X5_set {t t' : Nat} {a1 : Int32} {a2 : Int32} {h h' : tq_H} (gt : (Rr r d) t t') (gh : (Em r d W0 H0 al) h h') : Sm (Em r d W0 H0 al) (f_X5_set t a1 a2 h) (f_X5_set t' a1 a2 h') := by
  unfold f_X5_set
  refine Sm.b (R := (Em r d W0 H0 al)) ?_ ?_
  · refine Sm.i ?_ ?_
    · exact Sm.s gh
    · refine Sm.b (Sm.gr gh gt) ?_
      rintro k1 k1' gk1
      refine Sm.b (Sm.an gh gk1) ?_
      rintro x2 _ rfl
      refine Sm.i ?_ ?_
      · exact Sm.s gh
      · refine Sm.b (Sm.gr gh gt) ?_
        rintro k3 k3' gk3
        refine Sm.b (Sm.si gh gk3) ?_
        rintro w4 w4' gw4
        exact Sm.s gw4
  · rintro p5 p5' gp5
    exact Sm.s gp5
set_option maxHeartbeats 2000000 in
theorem y_X7_get {t t' : Nat} {a1 : Int32} {h h' : tq_H} (gt : (Rr r d) t t') (gh : (Em r d W0 H0 al) h h') : Sm Eq (f_X7_get t a1 h) (f_X7_get t' a1 h') := by
  unfold f_X7_get
  refine Sm.b (R := Eq) ?_ ?_
  · refine Sm.i ?_ ?_
    · exact Sm.s rfl
    · refine Sm.b (Sm.gr gh gt) ?_
      rintro k1 k1' gk1
      refine Sm.b (Sm.an gh gk1) ?_
      rintro x2 _ rfl
      refine Sm.i ?_ ?_
      · exact Sm.s rfl
      · refine Sm.b (Sm.gr gh gt) ?_
        rintro k3 k3' gk3
        refine Sm.b (Sm.aj gh gk3) ?_
        rintro x4 _ rfl
        exact Sm.s rfl
  · rintro p5 _ rfl
    exact Sm.s rfl
set_option maxHeartbeats 2000000 in
theorem y_X7_init {t t' : Nat} {a1 : Int32} {h h' : tq_H} (ha : al) (gt : (Rr r d) t t') (gh : (Em r d W0 H0 al) h h') : Sm (Em r d W0 H0 al) (f_X7_init t a1 h) (f_X7_init t' a1 h') := by
  unfold f_X7_init
  refine Sm.l ?_
  refine Sm.b (Sm.r) ?_
  rintro N9 _ rfl
  refine Sm.n ha gh okO_j (fun w2 w2' gw2 => ?_)
  refine Sm.b (Sm.pf gw2 gt (okV_r (gh.nr ha))) ?_
  rintro w3 w3' gw3
  exact Sm.s gw3
set_option maxHeartbeats 2000000 in
theorem y_X7_set {t t' : Nat} {a1 : Int32} {a2 : Int64} {h h' : tq_H} (gt : (Rr r d) t t') (gh : (Em r d W0 H0 al) h h') : Sm (Em r d W0 H0 al) (f_X7_set t a1 a2 h) (f_X7_set t' a1 a2 h') := by
  unfold f_X7_set
  refine Sm.b (R := (Em r d W0 H0 al)) ?_ ?_
  · refine Sm.i ?_ ?_
    · exact Sm.s gh
    · refine Sm.b (Sm.gr gh gt) ?_
      rintro k1 k1' gk1
      refine Sm.b (Sm.an gh gk1) ?_
      rintro x2 _ rfl
      refine Sm.i ?_ ?_
      · exact Sm.s gh
      · refine Sm.b (Sm.gr gh gt) ?_
        rintro k3 k3' gk3
        refine Sm.b (Sm.sl gh gk3) ?_
        rintro w4 w4' gw4
        exact Sm.s gw4
  · rintro p5 p5' gp5
    exact Sm.s gp5
set_option maxHeartbeats 2000000 in
theorem y_X7_union_b12 {i0 i0' : Nat} {i1 : Int32} {hh hh' : tq_H} (gi0 : (Rr r d) i0 i0') (ghh : (Em r d W0 H0 al) hh hh') : ∀ s s', (Rp Eq (Rp Eq Eq)) s s' → Sm (Ru (Rp Eq (Rp Eq Eq)) Eq) (f_X7_union_b12 i0 i1 hh s) (f_X7_union_b12 i0' i1 hh' s') := by
  rintro ⟨y4, ⟨y6, y8⟩⟩ ⟨_, ⟨_, _⟩⟩ ⟨rfl, ⟨rfl, rfl⟩⟩
  dsimp only [f_X7_union_b12]
  refine Sm.i ?_ ?_
  · exact Sm.s (Ru.r rfl)
  · refine Sm.b (y_X0_lowest ghh) ?_
    rintro v2 _ rfl
    refine Sm.l ?_
    refine Sm.b (R := Eq) ?_ ?_
    · refine Sm.i ?_ ?_
      · exact Sm.s rfl
      · refine Sm.b (Sm.gr ghh gi0) ?_
        rintro k4 k4' gk4
        refine Sm.b (Sm.an ghh gk4) ?_
        rintro x5 _ rfl
        refine Sm.i ?_ ?_
        · exact Sm.s rfl
        · refine Sm.b (Sm.gr ghh gi0) ?_
          rintro k6 k6' gk6
          refine Sm.b (Sm.aj ghh gk6) ?_
          rintro x7 _ rfl
          exact Sm.s rfl
    · rintro p8 _ rfl
      refine Sm.l ?_
      refine Sm.l ?_
      refine Sm.l ?_
      exact Sm.s (Ru.l (Rp.i rfl (Rp.i rfl rfl)))
set_option maxHeartbeats 2000000 in
theorem y_X7_union {t t' : Nat} {a1 : Int32} {a2 : Int64} {h h' : tq_H} (gt : (Rr r d) t t') (gh : (Em r d W0 H0 al) h h') : Sm Eq (f_X7_union t a1 a2 h) (f_X7_union t' a1 a2 h') := by
  unfold f_X7_union
  refine Sm.b (y_J13_bitCount_95d88 gh) ?_
  rintro v1 _ rfl
  refine Sm.b (Sm.w (y_X7_union_b12 gt gh) tq_N (Rp.i rfl (Rp.i rfl rfl))) ?_
  rintro o12 _ rfl
  exact Sm.s rfl
set_option maxHeartbeats 2000000 in
theorem y_X5_setAll {t t' : Nat} {a1 : Int32} {h h' : tq_H} (gt : (Rr r d) t t') (gh : (Em r d W0 H0 al) h h') : Sm (Em r d W0 H0 al) (f_X5_setAll t a1 h) (f_X5_setAll t' a1 h') := by
  unfold f_X5_setAll
  refine Sm.b (Sm.gr gh gt) ?_
  rintro k1 k1' gk1
  refine Sm.b (y_J7_fill_53178 gk1 gh) ?_
  rintro v2 v2' gv2
  exact Sm.s gv2
set_option maxHeartbeats 2000000 in
theorem y_J7_fill_d0a16_b6 {i0 i0' : Nat} {i1 : Int64} {i4 : Int32} (gi0 : (Rr r d) i0 i0') : ∀ s s', (Rp Eq (Em r d W0 H0 al)) s s' → Sm (Ru (Rp Eq (Em r d W0 H0 al)) (Em r d W0 H0 al)) (f_J7_fill_d0a16_b6 i0 i1 i4 s) (f_J7_fill_d0a16_b6 i0' i1 i4 s') := by
  rintro ⟨y3, hh⟩ ⟨_, hh'⟩ ⟨rfl, ghh⟩
  dsimp only [f_J7_fill_d0a16_b6]
  refine Sm.i ?_ ?_
  · exact Sm.s (Ru.r ghh)
  · refine Sm.b (Sm.sl ghh gi0) ?_
    rintro w2 w2' gw2
    refine Sm.l ?_
    exact Sm.s (Ru.l (Rp.i rfl gw2))
set_option maxHeartbeats 2000000 in
theorem y_J7_fill_d0a16 {a0 a0' : Nat} {a1 : Int64} {h h' : tq_H} (ga0 : (Rr r d) a0 a0') (gh : (Em r d W0 H0 al) h h') : Sm (Em r d W0 H0 al) (f_J7_fill_d0a16 a0 a1 h) (f_J7_fill_d0a16 a0' a1 h') := by
  unfold f_J7_fill_d0a16
  refine Sm.b (Sm.an gh ga0) ?_
  rintro x1 _ rfl
  refine Sm.b (Sm.w (y_J7_fill_d0a16_b6 ga0) tq_N (Rp.i rfl gh)) ?_
  rintro o4 o4' go4
  exact Sm.s go4
set_option maxHeartbeats 2000000 in
theorem y_X7_emptyAll {t t' : Nat} {h h' : tq_H} (gt : (Rr r d) t t') (gh : (Em r d W0 H0 al) h h') : Sm (Em r d W0 H0 al) (f_X7_emptyAll t h) (f_X7_emptyAll t' h') := by
  unfold f_X7_emptyAll
  refine Sm.b (Sm.gr gh gt) ?_
  rintro k1 k1' gk1
  refine Sm.b (y_J7_fill_d0a16 gk1 gh) ?_
  rintro v2 v2' gv2
  exact Sm.s gv2
set_option maxHeartbeats 2000000 in
theorem y_X7_add {t t' : Nat} {a1 : Int32} {a2 : Int32} {h h' : tq_H} (gt : (Rr r d) t t') (gh : (Em r d W0 H0 al) h h') : Sm (Em r d W0 H0 al) (f_X7_add t a1 a2 h) (f_X7_add t' a1 a2 h') := by
  unfold f_X7_add
  refine Sm.b (R := (Em r d W0 H0 al)) ?_ ?_
  · refine Sm.i ?_ ?_
    · exact Sm.s gh
    · refine Sm.b (Sm.gr gh gt) ?_
      rintro k1 k1' gk1
      refine Sm.b (Sm.an gh gk1) ?_
      rintro x2 _ rfl
      refine Sm.i ?_ ?_
      · exact Sm.s gh
      · refine Sm.b (Sm.gr gh gt) ?_
        rintro k3 k3' gk3
        refine Sm.b (Sm.aj gh gk3) ?_
        rintro x4 _ rfl
        refine Sm.b (y_X0_one gh) ?_
        rintro v5 _ rfl
        refine Sm.b (Sm.sl gh gk3) ?_
        rintro w6 w6' gw6
        exact Sm.s gw6
  · rintro p7 p7' gp7
    exact Sm.s gp7
set_option maxHeartbeats 2000000 in
theorem y_X5_copy {t t' : Nat} {a1 a1' : Nat} {h h' : tq_H} (gt : (Rr r d) t t') (ga1 : (Rr r d) a1 a1') (gh : (Em r d W0 H0 al) h h') : Sm (Em r d W0 H0 al) (f_X5_copy t a1 h) (f_X5_copy t' a1' h') := by
  unfold f_X5_copy
  refine Sm.b (Sm.gr gh gt) ?_
  rintro k1 k1' gk1
  refine Sm.b (Sm.an gh gk1) ?_
  rintro x2 _ rfl
  refine Sm.b (Sm.gr gh ga1) ?_
  rintro k3 k3' gk3
  refine Sm.b (Sm.an gh gk3) ?_
  rintro x4 _ rfl
  refine Sm.l ?_
  refine Sm.b (Sm.gr gh ga1) ?_
  rintro k6 k6' gk6
  refine Sm.b (Sm.gr gh gt) ?_
  rintro k7 k7' gk7
  refine Sm.b (Sm.cp gh gk6 gk7) ?_
  rintro w8 w8' gw8
  exact Sm.s gw8
set_option maxHeartbeats 2000000 in
theorem y_X5_union_b5 {i0 i0' : Nat} {i1 : Int32} {i2 : Int32} {hh hh' : tq_H} (gi0 : (Rr r d) i0 i0') (ghh : (Em r d W0 H0 al) hh hh') : ∀ s s', (Rp Eq Eq) s s' → Sm (Ru (Rp Eq Eq) Eq) (f_X5_union_b5 i0 i1 i2 hh s) (f_X5_union_b5 i0' i1 i2 hh' s') := by
  rintro ⟨y3, y4⟩ ⟨_, _⟩ ⟨rfl, rfl⟩
  dsimp only [f_X5_union_b5]
  refine Sm.i ?_ ?_
  · exact Sm.s (Ru.r rfl)
  · refine Sm.l ?_
    refine Sm.b (R := Eq) ?_ ?_
    · refine Sm.i ?_ ?_
      · exact Sm.s rfl
      · refine Sm.i ?_ ?_
        · exact Sm.s rfl
        · refine Sm.b (Sm.gr ghh gi0) ?_
          rintro k2 k2' gk2
          refine Sm.b (Sm.an ghh gk2) ?_
          rintro x3 _ rfl
          refine Sm.i ?_ ?_
          · exact Sm.s rfl
          · refine Sm.b (Sm.gr ghh gi0) ?_
            rintro k4 k4' gk4
            refine Sm.b (Sm.ai ghh gk4) ?_
            rintro x5 _ rfl
            refine Sm.l ?_
            exact Sm.s rfl
    · rintro p7 _ rfl
      refine Sm.l ?_
      exact Sm.s (Ru.l (Rp.i rfl rfl))
set_option maxHeartbeats 2000000 in
theorem y_X5_union {t t' : Nat} {a1 : Int32} {a2 : Int32} {h h' : tq_H} (gt : (Rr r d) t t') (gh : (Em r d W0 H0 al) h h') : Sm Eq (f_X5_union t a1 a2 h) (f_X5_union t' a1 a2 h') := by
  unfold f_X5_union
  refine Sm.b (Sm.w (y_X5_union_b5 gt gh) tq_N (Rp.i rfl rfl)) ?_
  rintro o9 _ rfl
  exact Sm.s rfl
set_option maxHeartbeats 2000000 in
theorem y_X5_closure_b10 {i0 i0' : Nat} {i1 : Int32} {hh hh' : tq_H} (gi0 : (Rr r d) i0 i0') (ghh : (Em r d W0 H0 al) hh hh') : ∀ s s', (Rp Eq Eq) s s' → Sm (Ru (Rp Eq Eq) Eq) (f_X5_closure_b10 i0 i1 hh s) (f_X5_closure_b10 i0' i1 hh' s') := by
  rintro ⟨y3, y4⟩ ⟨_, _⟩ ⟨rfl, rfl⟩
  dsimp only [f_X5_closure_b10]
  refine Sm.i ?_ ?_
  · exact Sm.s (Ru.r rfl)
  · refine Sm.b (Sm.is ghh gi0) ?_
    intro _ _ _
    refine Sm.b (y_X5_union gi0 ghh) ?_
    rintro v3 _ rfl
    refine Sm.l ?_
    refine Sm.l ?_
    exact Sm.s (Ru.l (Rp.i rfl rfl))
set_option maxHeartbeats 2000000 in
theorem y_X5_closure {t t' : Nat} {a1 : Int32} {a2 : Int32} {h h' : tq_H} (gt : (Rr r d) t t') (gh : (Em r d W0 H0 al) h h') : Sm Eq (f_X5_closure t a1 a2 h) (f_X5_closure t' a1 a2 h') := by
  unfold f_X5_closure
  refine Sm.b (Sm.is gh gt) ?_
  intro _ _ _
  refine Sm.b (y_X5_union gt gh) ?_
  rintro v1 _ rfl
  refine Sm.b (Sm.w (y_X5_closure_b10 gt gh) tq_N (Rp.i rfl rfl)) ?_
  rintro o7 _ rfl
  exact Sm.s rfl
set_option maxHeartbeats 2000000 in
theorem y_X3_count {t t' : Nat} {h h' : tq_H} (gt : (Rr r d) t t') (gh : (Em r d W0 H0 al) h h') : Sm Eq (f_X3_count t h) (f_X3_count t' h') := by
  unfold f_X3_count
  refine Sm.b (Sm.gi gh gt) ?_
  rintro x1 _ rfl
  exact Sm.s rfl
set_option maxHeartbeats 2000000 in
theorem y_X3_depthAt {t t' : Nat} {a1 : Int32} {h h' : tq_H} (gt : (Rr r d) t t') (gh : (Em r d W0 H0 al) h h') : Sm Eq (f_X3_depthAt t a1 h) (f_X3_depthAt t' a1 h') := by
  unfold f_X3_depthAt
  refine Sm.b (Sm.gr gh gt) ?_
  rintro k1 k1' gk1
  refine Sm.b (Sm.is gh gk1) ?_
  intro _ _ _
  refine Sm.b (y_X7_get gk1 gh) ?_
  rintro v2 _ rfl
  refine Sm.b (y_J13_bitCount_95d88 gh) ?_
  rintro v4 _ rfl
  exact Sm.s rfl
set_option maxHeartbeats 2000000 in
theorem y_X3_sizeAt {t t' : Nat} {a1 : Int32} {h h' : tq_H} (gt : (Rr r d) t t') (gh : (Em r d W0 H0 al) h h') : Sm Eq (f_X3_sizeAt t a1 h) (f_X3_sizeAt t' a1 h') := by
  unfold f_X3_sizeAt
  refine Sm.b (Sm.gr gh gt) ?_
  rintro k1 k1' gk1
  refine Sm.b (Sm.is gh gk1) ?_
  intro _ _ _
  refine Sm.b (y_X5_get gk1 gh) ?_
  rintro v2 _ rfl
  exact Sm.s rfl
set_option maxHeartbeats 2000000 in
theorem y_X3_nodeAt {t t' : Nat} {a1 : Int32} {h h' : tq_H} (gt : (Rr r d) t t') (gh : (Em r d W0 H0 al) h h') : Sm Eq (f_X3_nodeAt t a1 h) (f_X3_nodeAt t' a1 h') := by
  unfold f_X3_nodeAt
  refine Sm.b (Sm.gr gh gt) ?_
  rintro k1 k1' gk1
  refine Sm.b (Sm.is gh gk1) ?_
  intro _ _ _
  refine Sm.b (y_X5_get gk1 gh) ?_
  rintro v2 _ rfl
  exact Sm.s rfl
set_option maxHeartbeats 2000000 in
theorem y_X3_elements {t t' : Nat} {h h' : tq_H} (gt : (Rr r d) t t') (gh : (Em r d W0 H0 al) h h') : Sm Eq (f_X3_elements t h) (f_X3_elements t' h') := by
  unfold f_X3_elements
  refine Sm.b (Sm.gl gh gt) ?_
  rintro x1 _ rfl
  exact Sm.s rfl
set_option maxHeartbeats 2000000 in
theorem y_X3_below {t t' : Nat} {a1 : Int32} {h h' : tq_H} (gt : (Rr r d) t t') (gh : (Em r d W0 H0 al) h h') : Sm Eq (f_X3_below t a1 h) (f_X3_below t' a1 h') := by
  unfold f_X3_below
  refine Sm.b (Sm.gr gh gt) ?_
  rintro k1 k1' gk1
  refine Sm.b (Sm.is gh gk1) ?_
  intro _ _ _
  refine Sm.b (y_X7_get gk1 gh) ?_
  rintro v2 _ rfl
  exact Sm.s rfl
set_option maxHeartbeats 2000000 in
theorem y_X3_passing {t t' : Nat} {a1 : Int32} {h h' : tq_H} (gt : (Rr r d) t t') (gh : (Em r d W0 H0 al) h h') : Sm Eq (f_X3_passing t a1 h) (f_X3_passing t' a1 h') := by
  unfold f_X3_passing
  refine Sm.b (Sm.gr gh gt) ?_
  rintro k1 k1' gk1
  refine Sm.b (Sm.is gh gk1) ?_
  intro _ _ _
  refine Sm.b (y_X7_get gk1 gh) ?_
  rintro v2 _ rfl
  exact Sm.s rfl
set_option maxHeartbeats 2000000 in
theorem y_X3_nodeOfSet {t t' : Nat} {a1 : Int64} {a3 : Int32} {h h' : tq_H} (gt : (Rr r d) t t') (gh : (Em r d W0 H0 al) h h') : Sm Eq (f_X3_nodeOfSet t a1 a3 h) (f_X3_nodeOfSet t' a1 a3 h') := by
  unfold f_X3_nodeOfSet
  refine Sm.b (Sm.gr gh gt) ?_
  rintro k1 k1' gk1
  refine Sm.b (y_X0_memberAt gh) ?_
  rintro v2 _ rfl
  refine Sm.b (Sm.is gh gk1) ?_
  intro _ _ _
  refine Sm.b (y_X5_get gk1 gh) ?_
  rintro v3 _ rfl
  exact Sm.s rfl
set_option maxHeartbeats 2000000 in
theorem y_X4_stepsOf {t t' : Nat} {a1 : Int32} {h h' : tq_H} (gt : (Rr r d) t t') (gh : (Em r d W0 H0 al) h h') : Sm Eq (f_X4_stepsOf t a1 h) (f_X4_stepsOf t' a1 h') := by
  unfold f_X4_stepsOf
  refine Sm.b (Sm.gr gh gt) ?_
  rintro k1 k1' gk1
  refine Sm.b (Sm.is gh gk1) ?_
  intro _ _ _
  refine Sm.b (y_X5_get gk1 gh) ?_
  rintro v2 _ rfl
  exact Sm.s rfl
set_option maxHeartbeats 2000000 in
theorem y_X4_stepAt {t t' : Nat} {a1 : Int32} {a2 : Int32} {h h' : tq_H} (gt : (Rr r d) t t') (gh : (Em r d W0 H0 al) h h') : Sm Eq (f_X4_stepAt t a1 a2 h) (f_X4_stepAt t' a1 a2 h') := by
  unfold f_X4_stepAt
  exact Sm.s rfl
set_option maxHeartbeats 2000000 in
theorem y_X4_axisOf {t t' : Nat} {a1 : Int32} {h h' : tq_H} (gt : (Rr r d) t t') (gh : (Em r d W0 H0 al) h h') : Sm Eq (f_X4_axisOf t a1 h) (f_X4_axisOf t' a1 h') := by
  unfold f_X4_axisOf
  refine Sm.b (Sm.gr gh gt) ?_
  rintro k1 k1' gk1
  refine Sm.b (Sm.is gh gk1) ?_
  intro _ _ _
  refine Sm.b (y_X5_get gk1 gh) ?_
  rintro v2 _ rfl
  exact Sm.s rfl
set_option maxHeartbeats 2000000 in
theorem y_X4_repeatOf {t t' : Nat} {a1 : Int32} {h h' : tq_H} (gt : (Rr r d) t t') (gh : (Em r d W0 H0 al) h h') : Sm Eq (f_X4_repeatOf t a1 h) (f_X4_repeatOf t' a1 h') := by
  unfold f_X4_repeatOf
  refine Sm.b (Sm.gr gh gt) ?_
  rintro k1 k1' gk1
  refine Sm.b (Sm.is gh gk1) ?_
  intro _ _ _
  refine Sm.b (y_X5_get gk1 gh) ?_
  rintro v2 _ rfl
  exact Sm.s rfl
set_option maxHeartbeats 2000000 in
theorem y_X4_testOf {t t' : Nat} {a1 : Int32} {h h' : tq_H} (gt : (Rr r d) t t') (gh : (Em r d W0 H0 al) h h') : Sm Eq (f_X4_testOf t a1 h) (f_X4_testOf t' a1 h') := by
  unfold f_X4_testOf
  refine Sm.b (Sm.gr gh gt) ?_
  rintro k1 k1' gk1
  refine Sm.b (Sm.is gh gk1) ?_
  intro _ _ _
  refine Sm.b (y_X5_get gk1 gh) ?_
  rintro v2 _ rfl
  exact Sm.s rfl
set_option maxHeartbeats 2000000 in
theorem y_X3_reached {t t' : Nat} {a1 : Int32} {a2 : Int32} {h h' : tq_H} (gt : (Rr r d) t t') (gh : (Em r d W0 H0 al) h h') : Sm Eq (f_X3_reached t a1 a2 h) (f_X3_reached t' a1 a2 h') := by
  unfold f_X3_reached
  refine Sm.i ?_ ?_
  · refine Sm.b (y_X0_one gh) ?_
    rintro v1 _ rfl
    exact Sm.s rfl
  · refine Sm.i ?_ ?_
    · refine Sm.b (Sm.gr gh gt) ?_
      rintro k2 k2' gk2
      refine Sm.b (Sm.is gh gk2) ?_
      intro _ _ _
      refine Sm.b (y_X7_get gk2 gh) ?_
      rintro v3 _ rfl
      refine Sm.b (Sm.gl gh gt) ?_
      rintro x5 _ rfl
      exact Sm.s rfl
    · refine Sm.i ?_ ?_
      · refine Sm.b (Sm.gr gh gt) ?_
        rintro k6 k6' gk6
        refine Sm.b (Sm.is gh gk6) ?_
        intro _ _ _
        refine Sm.b (y_X5_get gk6 gh) ?_
        rintro v7 _ rfl
        refine Sm.b (y_X0_one gh) ?_
        rintro v9 _ rfl
        exact Sm.s rfl
      · refine Sm.i ?_ ?_
        · refine Sm.b (Sm.gr gh gt) ?_
          rintro k10 k10' gk10
          refine Sm.b (Sm.is gh gk10) ?_
          intro _ _ _
          refine Sm.b (y_X7_get gk10 gh) ?_
          rintro v11 _ rfl
          refine Sm.b (Sm.gl gh gt) ?_
          rintro x13 _ rfl
          exact Sm.s rfl
        · refine Sm.i ?_ ?_
          · refine Sm.b (Sm.gr gh gt) ?_
            rintro k14 k14' gk14
            refine Sm.b (Sm.is gh gk14) ?_
            intro _ _ _
            refine Sm.b (y_X7_get gk14 gh) ?_
            rintro v15 _ rfl
            refine Sm.b (Sm.gl gh gt) ?_
            rintro x17 _ rfl
            refine Sm.b (y_X0_one gh) ?_
            rintro v18 _ rfl
            exact Sm.s rfl
          · refine Sm.i ?_ ?_
            · refine Sm.b (Sm.gr gh gt) ?_
              rintro k19 k19' gk19
              refine Sm.b (Sm.is gh gk19) ?_
              intro _ _ _
              refine Sm.b (y_X7_get gk19 gh) ?_
              rintro v20 _ rfl
              exact Sm.s rfl
            · refine Sm.i ?_ ?_
              · refine Sm.b (Sm.gr gh gt) ?_
                rintro k22 k22' gk22
                refine Sm.b (Sm.is gh gk22) ?_
                intro _ _ _
                refine Sm.b (y_X7_get gk22 gh) ?_
                rintro v23 _ rfl
                refine Sm.b (y_X0_one gh) ?_
                rintro v25 _ rfl
                exact Sm.s rfl
              · refine Sm.i ?_ ?_
                · refine Sm.b (Sm.gi gh gt) ?_
                  rintro x26 _ rfl
                  refine Sm.b (y_X0_below gh) ?_
                  rintro v27 _ rfl
                  refine Sm.b (Sm.gr gh gt) ?_
                  rintro k28 k28' gk28
                  refine Sm.b (Sm.is gh gk28) ?_
                  intro _ _ _
                  refine Sm.b (y_X5_get gk28 gh) ?_
                  rintro v29 _ rfl
                  refine Sm.b (y_X0_below gh) ?_
                  rintro v31 _ rfl
                  refine Sm.b (Sm.gl gh gt) ?_
                  rintro x32 _ rfl
                  exact Sm.s rfl
                · refine Sm.i ?_ ?_
                  · refine Sm.b (y_X0_below gh) ?_
                    rintro v33 _ rfl
                    refine Sm.b (Sm.gl gh gt) ?_
                    rintro x34 _ rfl
                    refine Sm.b (Sm.gr gh gt) ?_
                    rintro k35 k35' gk35
                    refine Sm.b (Sm.is gh gk35) ?_
                    intro _ _ _
                    refine Sm.b (y_X7_get gk35 gh) ?_
                    rintro v36 _ rfl
                    exact Sm.s rfl
                  · refine Sm.i ?_ ?_
                    · refine Sm.b (Sm.gr gh gt) ?_
                      rintro k38 k38' gk38
                      refine Sm.b (Sm.is gh gk38) ?_
                      intro _ _ _
                      refine Sm.b (y_X7_get gk38 gh) ?_
                      rintro v39 _ rfl
                      refine Sm.b (y_X0_below gh) ?_
                      rintro v41 _ rfl
                      exact Sm.s rfl
                    · refine Sm.i ?_ ?_
                      · refine Sm.b (Sm.gr gh gt) ?_
                        rintro k42 k42' gk42
                        refine Sm.b (Sm.is gh gk42) ?_
                        intro _ _ _
                        refine Sm.b (y_X7_get gk42 gh) ?_
                        rintro v43 _ rfl
                        refine Sm.b (y_X0_below gh) ?_
                        rintro v45 _ rfl
                        exact Sm.s rfl
                      · refine Sm.i ?_ ?_
                        · refine Sm.b (Sm.gr gh gt) ?_
                          rintro k46 k46' gk46
                          refine Sm.b (Sm.is gh gk46) ?_
                          intro _ _ _
                          refine Sm.b (y_X7_get gk46 gh) ?_
                          rintro v47 _ rfl
                          refine Sm.b (Sm.gl gh gt) ?_
                          rintro x49 _ rfl
                          exact Sm.s rfl
                        · exact Sm.s rfl
set_option maxHeartbeats 2000000 in
theorem y_X4_conditionsOf {t t' : Nat} {a1 : Int32} {h h' : tq_H} (gt : (Rr r d) t t') (gh : (Em r d W0 H0 al) h h') : Sm Eq (f_X4_conditionsOf t a1 h) (f_X4_conditionsOf t' a1 h') := by
  unfold f_X4_conditionsOf
  refine Sm.b (Sm.gr gh gt) ?_
  rintro k1 k1' gk1
  refine Sm.b (Sm.is gh gk1) ?_
  intro _ _ _
  refine Sm.b (y_X5_get gk1 gh) ?_
  rintro v2 _ rfl
  exact Sm.s rfl
set_option maxHeartbeats 2000000 in
theorem y_X4_conditionAt {t t' : Nat} {a1 : Int32} {a2 : Int32} {h h' : tq_H} (gt : (Rr r d) t t') (gh : (Em r d W0 H0 al) h h') : Sm Eq (f_X4_conditionAt t a1 a2 h) (f_X4_conditionAt t' a1 a2 h') := by
  unfold f_X4_conditionAt
  exact Sm.s rfl
set_option maxHeartbeats 2000000 in
theorem y_X4_whatOf {t t' : Nat} {a1 : Int32} {h h' : tq_H} (gt : (Rr r d) t t') (gh : (Em r d W0 H0 al) h h') : Sm Eq (f_X4_whatOf t a1 h) (f_X4_whatOf t' a1 h') := by
  unfold f_X4_whatOf
  refine Sm.b (Sm.gr gh gt) ?_
  rintro k1 k1' gk1
  refine Sm.b (Sm.is gh gk1) ?_
  intro _ _ _
  refine Sm.b (y_X5_get gk1 gh) ?_
  rintro v2 _ rfl
  exact Sm.s rfl
set_option maxHeartbeats 2000000 in
theorem y_X4_comparisonOf {t t' : Nat} {a1 : Int32} {h h' : tq_H} (gt : (Rr r d) t t') (gh : (Em r d W0 H0 al) h h') : Sm Eq (f_X4_comparisonOf t a1 h) (f_X4_comparisonOf t' a1 h') := by
  unfold f_X4_comparisonOf
  refine Sm.b (Sm.gr gh gt) ?_
  rintro k1 k1' gk1
  refine Sm.b (Sm.is gh gk1) ?_
  intro _ _ _
  refine Sm.b (y_X5_get gk1 gh) ?_
  rintro v2 _ rfl
  exact Sm.s rfl
set_option maxHeartbeats 2000000 in
theorem y_X4_numberOf {t t' : Nat} {a1 : Int32} {h h' : tq_H} (gt : (Rr r d) t t') (gh : (Em r d W0 H0 al) h h') : Sm Eq (f_X4_numberOf t a1 h) (f_X4_numberOf t' a1 h') := by
  unfold f_X4_numberOf
  refine Sm.b (Sm.gr gh gt) ?_
  rintro k1 k1' gk1
  refine Sm.b (Sm.is gh gk1) ?_
  intro _ _ _
  refine Sm.b (y_X5_get gk1 gh) ?_
  rintro v2 _ rfl
  exact Sm.s rfl
set_option maxHeartbeats 2000000 in
theorem y_X4_otherOf {t t' : Nat} {a1 : Int32} {h h' : tq_H} (gt : (Rr r d) t t') (gh : (Em r d W0 H0 al) h h') : Sm Eq (f_X4_otherOf t a1 h) (f_X4_otherOf t' a1 h') := by
  unfold f_X4_otherOf
  refine Sm.b (Sm.gr gh gt) ?_
  rintro k1 k1' gk1
  refine Sm.b (Sm.is gh gk1) ?_
  intro _ _ _
  refine Sm.b (y_X5_get gk1 gh) ?_
  rintro v2 _ rfl
  exact Sm.s rfl
set_option maxHeartbeats 2000000 in
theorem y_X3_init {t t' : Nat} {h h' : tq_H} (ha : al) (gt : (Rr r d) t t') (gh : (Em r d W0 H0 al) h h') : Sm (Em r d W0 H0 al) (f_X3_init t h) (f_X3_init t' h') := by
  unfold f_X3_init
  refine Sm.n ha gh (okO_l rfl) (fun w1 w1' gw1 => ?_)
  refine Sm.b (y_X5_init ha (gh.nr ha) gw1) ?_
  rintro v2 v2' gv2
  refine Sm.b (Sm.pf gv2 gt (okV_r (gh.nr ha))) ?_
  rintro w3 w3' gw3
  refine Sm.n ha gw3 (okO_l rfl) (fun w4 w4' gw4 => ?_)
  refine Sm.b (y_X5_init ha (gw3.nr ha) gw4) ?_
  rintro v5 v5' gv5
  refine Sm.b (Sm.pf gv5 gt (okV_r (gw3.nr ha))) ?_
  rintro w6 w6' gw6
  refine Sm.n ha gw6 (okO_l rfl) (fun w7 w7' gw7 => ?_)
  refine Sm.b (y_X5_init ha (gw6.nr ha) gw7) ?_
  rintro v8 v8' gv8
  refine Sm.b (Sm.pf gv8 gt (okV_r (gw6.nr ha))) ?_
  rintro w9 w9' gw9
  refine Sm.n ha gw9 (okO_l rfl) (fun w10 w10' gw10 => ?_)
  refine Sm.b (y_X5_init ha (gw9.nr ha) gw10) ?_
  rintro v11 v11' gv11
  refine Sm.b (Sm.pf gv11 gt (okV_r (gw9.nr ha))) ?_
  rintro w12 w12' gw12
  refine Sm.n ha gw12 (okO_l rfl) (fun w13 w13' gw13 => ?_)
  refine Sm.b (y_X5_init ha (gw12.nr ha) gw13) ?_
  rintro v14 v14' gv14
  refine Sm.b (Sm.pf gv14 gt (okV_r (gw12.nr ha))) ?_
  rintro w15 w15' gw15
  refine Sm.n ha gw15 (okO_l rfl) (fun w16 w16' gw16 => ?_)
  refine Sm.b (y_X7_init ha (gw15.nr ha) gw16) ?_
  rintro v17 v17' gv17
  refine Sm.b (Sm.pf gv17 gt (okV_r (gw15.nr ha))) ?_
  rintro w18 w18' gw18
  refine Sm.n ha gw18 (okO_l rfl) (fun w19 w19' gw19 => ?_)
  refine Sm.b (y_X7_init ha (gw18.nr ha) gw19) ?_
  rintro v20 v20' gv20
  refine Sm.b (Sm.pf gv20 gt (okV_r (gw18.nr ha))) ?_
  rintro w21 w21' gw21
  refine Sm.n ha gw21 (okO_l rfl) (fun w22 w22' gw22 => ?_)
  refine Sm.b (y_X7_init ha (gw21.nr ha) gw22) ?_
  rintro v23 v23' gv23
  refine Sm.b (Sm.pf gv23 gt (okV_r (gw21.nr ha))) ?_
  rintro w24 w24' gw24
  refine Sm.n ha gw24 (okO_l rfl) (fun w25 w25' gw25 => ?_)
  refine Sm.b (y_X7_init ha (gw24.nr ha) gw25) ?_
  rintro v26 v26' gv26
  refine Sm.b (Sm.pf gv26 gt (okV_r (gw24.nr ha))) ?_
  rintro w27 w27' gw27
  refine Sm.n ha gw27 (okO_l rfl) (fun w28 w28' gw28 => ?_)
  refine Sm.b (y_X7_init ha (gw27.nr ha) gw28) ?_
  rintro v29 v29' gv29
  refine Sm.b (Sm.pf gv29 gt (okV_r (gw27.nr ha))) ?_
  rintro w30 w30' gw30
  refine Sm.b (Sm.pf gw30 gt (okV_l _)) ?_
  rintro w31 w31' gw31
  refine Sm.b (Sm.pf gw31 gt (okV_l _)) ?_
  rintro w32 w32' gw32
  refine Sm.b (Sm.pf gw32 gt (okV_i _)) ?_
  rintro w33 w33' gw33
  exact Sm.s gw33
set_option maxHeartbeats 2000000 in
theorem y_X3_clear {t t' : Nat} {h h' : tq_H} (gt : (Rr r d) t t') (gh : (Em r d W0 H0 al) h h') : Sm (Em r d W0 H0 al) (f_X3_clear t h) (f_X3_clear t' h') := by
  unfold f_X3_clear
  refine Sm.b (Sm.gr gh gt) ?_
  rintro k1 k1' gk1
  refine Sm.b (Sm.is gh gk1) ?_
  intro _ _ _
  refine Sm.b (y_X5_setAll gk1 gh) ?_
  rintro v2 v2' gv2
  refine Sm.b (Sm.gr gv2 gt) ?_
  rintro k4 k4' gk4
  refine Sm.b (Sm.is gv2 gk4) ?_
  intro _ _ _
  refine Sm.b (y_X7_emptyAll gk4 gv2) ?_
  rintro v5 v5' gv5
  refine Sm.b (Sm.gr gv5 gt) ?_
  rintro k7 k7' gk7
  refine Sm.b (Sm.is gv5 gk7) ?_
  intro _ _ _
  refine Sm.b (y_X7_emptyAll gk7 gv5) ?_
  rintro v8 v8' gv8
  refine Sm.b (Sm.pf gv8 gt (okV_l _)) ?_
  rintro w10 w10' gw10
  refine Sm.b (Sm.pf gw10 gt (okV_l _)) ?_
  rintro w11 w11' gw11
  refine Sm.b (Sm.pf gw11 gt (okV_i _)) ?_
  rintro w12 w12' gw12
  exact Sm.s gw12
set_option maxHeartbeats 2000000 in
theorem y_X3_add {t t' : Nat} {a1 : Int32} {a2 : Int32} {a3 : Int32} {a4 : Int32} {a5 : Int32} {h h' : tq_H} (gt : (Rr r d) t t') (gh : (Em r d W0 H0 al) h h') : Sm (Em r d W0 H0 al) (f_X3_add t a1 a2 a3 a4 a5 h) (f_X3_add t' a1 a2 a3 a4 a5 h') := by
  unfold f_X3_add
  refine Sm.b (Sm.gi gh gt) ?_
  rintro x1 _ rfl
  refine Sm.b (Sm.gi gh gt) ?_
  rintro x2 _ rfl
  refine Sm.b (Sm.pf gh gt (okV_i _)) ?_
  rintro w3 w3' gw3
  refine Sm.b (Sm.gr gw3 gt) ?_
  rintro k4 k4' gk4
  refine Sm.b (Sm.is gw3 gk4) ?_
  intro _ _ _
  refine Sm.b (y_X5_set gk4 gw3) ?_
  rintro v5 v5' gv5
  refine Sm.b (Sm.gr gv5 gt) ?_
  rintro k7 k7' gk7
  refine Sm.b (Sm.is gv5 gk7) ?_
  intro _ _ _
  refine Sm.b (y_X5_set gk7 gv5) ?_
  rintro v8 v8' gv8
  refine Sm.b (Sm.gr gv8 gt) ?_
  rintro k10 k10' gk10
  refine Sm.b (Sm.is gv8 gk10) ?_
  intro _ _ _
  refine Sm.b (y_X5_set gk10 gv8) ?_
  rintro v11 v11' gv11
  refine Sm.b (Sm.gr gv11 gt) ?_
  rintro k13 k13' gk13
  refine Sm.b (Sm.is gv11 gk13) ?_
  intro _ _ _
  refine Sm.b (y_X7_add gk13 gv11) ?_
  rintro v14 v14' gv14
  refine Sm.b (Sm.gr gv14 gt) ?_
  rintro k16 k16' gk16
  refine Sm.b (Sm.gr gv14 gt) ?_
  rintro k17 k17' gk17
  refine Sm.b (Sm.is gv14 gk17) ?_
  intro _ _ _
  refine Sm.b (y_X7_get gk17 gv14) ?_
  rintro v18 _ rfl
  refine Sm.b (y_X0_one gv14) ?_
  rintro v20 _ rfl
  refine Sm.b (Sm.is gv14 gk16) ?_
  intro _ _ _
  refine Sm.b (y_X7_set gk16 gv14) ?_
  rintro v21 v21' gv21
  refine Sm.b (Sm.gr gv21 gt) ?_
  rintro k23 k23' gk23
  refine Sm.b (Sm.is gv21 gk23) ?_
  intro _ _ _
  refine Sm.b (y_X5_set gk23 gv21) ?_
  rintro v24 v24' gv24
  refine Sm.b (Sm.gr gv24 gt) ?_
  rintro k26 k26' gk26
  refine Sm.b (Sm.is gv24 gk26) ?_
  intro _ _ _
  refine Sm.b (y_X5_set gk26 gv24) ?_
  rintro v27 v27' gv27
  refine Sm.b (Sm.gr gv27 gt) ?_
  rintro k29 k29' gk29
  refine Sm.b (Sm.is gv27 gk29) ?_
  intro _ _ _
  refine Sm.b (y_X7_add gk29 gv27) ?_
  rintro v30 v30' gv30
  refine Sm.i ?_ ?_
  · refine Sm.b (Sm.gr gv30 gt) ?_
    rintro k51 k51' gk51
    refine Sm.b (Sm.is gv30 gk51) ?_
    intro _ _ _
    refine Sm.b (y_X7_add gk51 gv30) ?_
    rintro v52 v52' gv52
    exact Sm.s gv52
  · refine Sm.b (Sm.gr gv30 gt) ?_
    rintro k32 k32' gk32
    refine Sm.b (Sm.is gv30 gk32) ?_
    intro _ _ _
    refine Sm.b (y_X7_add gk32 gv30) ?_
    rintro v33 v33' gv33
    refine Sm.i ?_ ?_
    · refine Sm.b (Sm.gl gv33 gt) ?_
      rintro x48 _ rfl
      refine Sm.b (y_X0_one gv33) ?_
      rintro v49 _ rfl
      refine Sm.b (Sm.pf gv33 gt (okV_l _)) ?_
      rintro w50 w50' gw50
      exact Sm.s gw50
    · refine Sm.b (Sm.gl gv33 gt) ?_
      rintro x35 _ rfl
      refine Sm.b (y_X0_one gv33) ?_
      rintro v36 _ rfl
      refine Sm.b (Sm.pf gv33 gt (okV_l _)) ?_
      rintro w37 w37' gw37
      refine Sm.b (R := Eq) ?_ ?_
      · refine Sm.i ?_ ?_
        · refine Sm.i ?_ ?_
          · exact Sm.s rfl
          · refine Sm.b (Sm.gr gw37 gt) ?_
            rintro k38 k38' gk38
            refine Sm.b (Sm.is gw37 gk38) ?_
            intro _ _ _
            refine Sm.b (y_X5_get gk38 gw37) ?_
            rintro v39 _ rfl
            exact Sm.s rfl
        · exact Sm.s rfl
      · rintro p41 _ rfl
        refine Sm.b (Sm.gr gw37 gt) ?_
        rintro k42 k42' gk42
        refine Sm.b (Sm.is gw37 gk42) ?_
        intro _ _ _
        refine Sm.b (y_X5_set gk42 gw37) ?_
        rintro v43 v43' gv43
        refine Sm.b (Sm.gr gv43 gt) ?_
        rintro k45 k45' gk45
        refine Sm.b (Sm.is gv43 gk45) ?_
        intro _ _ _
        refine Sm.b (y_X7_add gk45 gv43) ?_
        rintro v46 v46' gv46
        exact Sm.s gv46
set_option maxHeartbeats 2000000 in
theorem y_X3_children {t t' : Nat} {a1 : Int32} {h h' : tq_H} (gt : (Rr r d) t t') (gh : (Em r d W0 H0 al) h h') : Sm Eq (f_X3_children t a1 h) (f_X3_children t' a1 h') := by
  unfold f_X3_children
  refine Sm.b (Sm.gr gh gt) ?_
  rintro k1 k1' gk1
  refine Sm.b (Sm.is gh gk1) ?_
  intro _ _ _
  refine Sm.b (y_X7_get gk1 gh) ?_
  rintro v2 _ rfl
  refine Sm.b (Sm.gl gh gt) ?_
  rintro x4 _ rfl
  exact Sm.s rfl
set_option maxHeartbeats 2000000 in
theorem y_X3_close_b7 {i0 i0' : Nat} (gi0 : (Rr r d) i0 i0') : ∀ s s', (Rp Eq (Em r d W0 H0 al)) s s' → Sm (Ru (Rp Eq (Em r d W0 H0 al)) (Em r d W0 H0 al)) (f_X3_close_b7 i0 s) (f_X3_close_b7 i0' s') := by
  rintro ⟨y1, hh⟩ ⟨_, hh'⟩ ⟨rfl, ghh⟩
  dsimp only [f_X3_close_b7]
  refine Sm.i ?_ ?_
  · exact Sm.s (Ru.r ghh)
  · refine Sm.b (Sm.gr ghh gi0) ?_
    rintro k3 k3' gk3
    refine Sm.b (Sm.is ghh gk3) ?_
    intro _ _ _
    refine Sm.b (y_X5_get gk3 ghh) ?_
    rintro v4 _ rfl
    refine Sm.b (Sm.gr ghh gi0) ?_
    rintro k6 k6' gk6
    refine Sm.b (Sm.gr ghh gi0) ?_
    rintro k7 k7' gk7
    refine Sm.b (Sm.is ghh gk7) ?_
    intro _ _ _
    refine Sm.b (y_X5_get gk7 ghh) ?_
    rintro v8 _ rfl
    refine Sm.b (Sm.gr ghh gi0) ?_
    rintro k10 k10' gk10
    refine Sm.b (Sm.is ghh gk10) ?_
    intro _ _ _
    refine Sm.b (y_X5_get gk10 ghh) ?_
    rintro v11 _ rfl
    refine Sm.b (Sm.is ghh gk6) ?_
    intro _ _ _
    refine Sm.b (y_X5_set gk6 ghh) ?_
    rintro v13 v13' gv13
    refine Sm.b (Sm.gr gv13 gi0) ?_
    rintro k15 k15' gk15
    refine Sm.b (Sm.gr gv13 gi0) ?_
    rintro k16 k16' gk16
    refine Sm.b (Sm.is gv13 gk16) ?_
    intro _ _ _
    refine Sm.b (y_X5_get gk16 gv13) ?_
    rintro v17 _ rfl
    refine Sm.b (y_X0_below gv13) ?_
    rintro v19 _ rfl
    refine Sm.b (y_X0_below gv13) ?_
    rintro v20 _ rfl
    refine Sm.b (Sm.is gv13 gk15) ?_
    intro _ _ _
    refine Sm.b (y_X7_set gk15 gv13) ?_
    rintro v21 v21' gv21
    refine Sm.b (Sm.gr gv21 gi0) ?_
    rintro k23 k23' gk23
    refine Sm.b (Sm.gl gv21 gi0) ?_
    rintro x24 _ rfl
    refine Sm.b (y_X0_holds gv21) ?_
    rintro v25 _ rfl
    refine Sm.b (R := Eq) ?_ ?_
    · refine Sm.i ?_ ?_
      · refine Sm.b (Sm.is gv21 gi0) ?_
        intro _ _ _
        refine Sm.b (y_X3_children gi0 gv21) ?_
        rintro v26 _ rfl
        exact Sm.s rfl
      · exact Sm.s rfl
    · rintro p28 _ rfl
      refine Sm.b (Sm.is gv21 gk23) ?_
      intro _ _ _
      refine Sm.b (y_X7_set gk23 gv21) ?_
      rintro v29 v29' gv29
      refine Sm.l ?_
      exact Sm.s (Ru.l (Rp.i rfl gv29))
set_option maxHeartbeats 2000000 in
theorem y_X3_close {t t' : Nat} {h h' : tq_H} (gt : (Rr r d) t t') (gh : (Em r d W0 H0 al) h h') : Sm (Em r d W0 H0 al) (f_X3_close t h) (f_X3_close t' h') := by
  unfold f_X3_close
  refine Sm.b (Sm.gi gh gt) ?_
  rintro x1 _ rfl
  refine Sm.l ?_
  refine Sm.b (Sm.w (y_X3_close_b7 gt) tq_N (Rp.i rfl gh)) ?_
  rintro o32 o32' go32
  exact Sm.s go32
set_option maxHeartbeats 2000000 in
theorem y_X3_holds {t t' : Nat} {a1 : Int32} {h h' : tq_H} (gt : (Rr r d) t t') (gh : (Em r d W0 H0 al) h h') : Sm Eq (f_X3_holds t a1 h) (f_X3_holds t' a1 h') := by
  unfold f_X3_holds
  refine Sm.b (Sm.gr gh gt) ?_
  rintro k1 k1' gk1
  refine Sm.b (Sm.is gh gk1) ?_
  intro _ _ _
  refine Sm.b (y_X5_get gk1 gh) ?_
  rintro v2 _ rfl
  refine Sm.l ?_
  refine Sm.b (Sm.r) ?_
  rintro z5 _ rfl
  exact Sm.s rfl
set_option maxHeartbeats 2000000 in
theorem y_X3_spotOf {t t' : Nat} {a1 : Int32} {h h' : tq_H} (gt : (Rr r d) t t') (gh : (Em r d W0 H0 al) h h') : Sm Eq (f_X3_spotOf t a1 h) (f_X3_spotOf t' a1 h') := by
  unfold f_X3_spotOf
  refine Sm.b (Sm.gr gh gt) ?_
  rintro k1 k1' gk1
  refine Sm.b (Sm.is gh gk1) ?_
  intro _ _ _
  refine Sm.b (y_X5_get gk1 gh) ?_
  rintro v2 _ rfl
  exact Sm.s rfl
set_option maxHeartbeats 2000000 in
theorem y_X3_spaceAt {t t' : Nat} {a1 : Int32} {h h' : tq_H} (gt : (Rr r d) t t') (gh : (Em r d W0 H0 al) h h') : Sm Eq (f_X3_spaceAt t a1 h) (f_X3_spaceAt t' a1 h') := by
  unfold f_X3_spaceAt
  refine Sm.b (Sm.gr gh gt) ?_
  rintro k1 k1' gk1
  refine Sm.b (Sm.is gh gk1) ?_
  intro _ _ _
  refine Sm.b (y_X5_get gk1 gh) ?_
  rintro v2 _ rfl
  exact Sm.s rfl
set_option maxHeartbeats 2000000 in
theorem y_X3_everything {t t' : Nat} {h h' : tq_H} (gt : (Rr r d) t t') (gh : (Em r d W0 H0 al) h h') : Sm Eq (f_X3_everything t h) (f_X3_everything t' h') := by
  unfold f_X3_everything
  refine Sm.b (Sm.gi gh gt) ?_
  rintro x1 _ rfl
  refine Sm.b (y_X0_below gh) ?_
  rintro v2 _ rfl
  exact Sm.s rfl
set_option maxHeartbeats 2000000 in
theorem y_X3_solids {t t' : Nat} {h h' : tq_H} (gt : (Rr r d) t t') (gh : (Em r d W0 H0 al) h h') : Sm Eq (f_X3_solids t h) (f_X3_solids t' h') := by
  unfold f_X3_solids
  refine Sm.b (Sm.gi gh gt) ?_
  rintro x1 _ rfl
  refine Sm.b (y_X0_below gh) ?_
  rintro v2 _ rfl
  refine Sm.b (Sm.gl gh gt) ?_
  rintro x3 _ rfl
  exact Sm.s rfl
set_option maxHeartbeats 2000000 in
theorem y_X3_attributesOf {t t' : Nat} {a1 : Int32} {h h' : tq_H} (gt : (Rr r d) t t') (gh : (Em r d W0 H0 al) h h') : Sm Eq (f_X3_attributesOf t a1 h) (f_X3_attributesOf t' a1 h') := by
  unfold f_X3_attributesOf
  refine Sm.b (Sm.gr gh gt) ?_
  rintro k1 k1' gk1
  refine Sm.b (Sm.is gh gk1) ?_
  intro _ _ _
  refine Sm.b (y_X7_get gk1 gh) ?_
  rintro v2 _ rfl
  refine Sm.b (Sm.gl gh gt) ?_
  rintro x4 _ rfl
  exact Sm.s rfl
set_option maxHeartbeats 2000000 in
theorem y_X3_childCount {t t' : Nat} {a1 : Int32} {h h' : tq_H} (gt : (Rr r d) t t') (gh : (Em r d W0 H0 al) h h') : Sm Eq (f_X3_childCount t a1 h) (f_X3_childCount t' a1 h') := by
  unfold f_X3_childCount
  refine Sm.b (Sm.gr gh gt) ?_
  rintro k1 k1' gk1
  refine Sm.b (Sm.is gh gk1) ?_
  intro _ _ _
  refine Sm.b (y_X5_get gk1 gh) ?_
  rintro v2 _ rfl
  refine Sm.b (Sm.is gh gt) ?_
  intro _ _ _
  refine Sm.b (y_X3_children gt gh) ?_
  rintro v4 _ rfl
  refine Sm.b (y_J13_bitCount_95d88 gh) ?_
  rintro v6 _ rfl
  exact Sm.s rfl
set_option maxHeartbeats 2000000 in
theorem y_X3_spread_b5 {i0 i0' : Nat} {i1 : Int64} {hh hh' : tq_H} (gi0 : (Rr r d) i0 i0') (ghh : (Em r d W0 H0 al) hh hh') : ∀ s s', (Rp Eq Eq) s s' → Sm (Ru (Rp Eq Eq) Eq) (f_X3_spread_b5 i0 i1 hh s) (f_X3_spread_b5 i0' i1 hh' s') := by
  rintro ⟨y3, y5⟩ ⟨_, _⟩ ⟨rfl, rfl⟩
  dsimp only [f_X3_spread_b5]
  refine Sm.b (Sm.gi ghh gi0) ?_
  rintro x1 _ rfl
  refine Sm.i ?_ ?_
  · exact Sm.s (Ru.r rfl)
  · refine Sm.b (y_X0_holds ghh) ?_
    rintro v2 _ rfl
    refine Sm.b (R := Eq) ?_ ?_
    · refine Sm.i ?_ ?_
      · exact Sm.s rfl
      · refine Sm.b (Sm.gr ghh gi0) ?_
        rintro k3 k3' gk3
        refine Sm.b (Sm.is ghh gk3) ?_
        intro _ _ _
        refine Sm.b (y_X7_get gk3 ghh) ?_
        rintro v4 _ rfl
        refine Sm.l ?_
        exact Sm.s rfl
    · rintro p7 _ rfl
      refine Sm.l ?_
      exact Sm.s (Ru.l (Rp.i rfl rfl))
set_option maxHeartbeats 2000000 in
theorem y_X3_spread {t t' : Nat} {a1 : Int64} {h h' : tq_H} (gt : (Rr r d) t t') (gh : (Em r d W0 H0 al) h h') : Sm Eq (f_X3_spread t a1 h) (f_X3_spread t' a1 h') := by
  unfold f_X3_spread
  refine Sm.b (Sm.w (y_X3_spread_b5 gt gh) tq_N (Rp.i rfl rfl)) ?_
  rintro o9 _ rfl
  exact Sm.s rfl
set_option maxHeartbeats 2000000 in
theorem y_X3_nodesOf_b5 {i0 i0' : Nat} {i1 : Int64} {hh hh' : tq_H} (gi0 : (Rr r d) i0 i0') (ghh : (Em r d W0 H0 al) hh hh') : ∀ s s', (Rp Eq Eq) s s' → Sm (Ru (Rp Eq Eq) Eq) (f_X3_nodesOf_b5 i0 i1 hh s) (f_X3_nodesOf_b5 i0' i1 hh' s') := by
  rintro ⟨y3, y5⟩ ⟨_, _⟩ ⟨rfl, rfl⟩
  dsimp only [f_X3_nodesOf_b5]
  refine Sm.b (Sm.gi ghh gi0) ?_
  rintro x1 _ rfl
  refine Sm.i ?_ ?_
  · exact Sm.s (Ru.r rfl)
  · refine Sm.b (y_X0_holds ghh) ?_
    rintro v2 _ rfl
    refine Sm.b (R := Eq) ?_ ?_
    · refine Sm.i ?_ ?_
      · exact Sm.s rfl
      · refine Sm.b (Sm.gr ghh gi0) ?_
        rintro k3 k3' gk3
        refine Sm.b (Sm.is ghh gk3) ?_
        intro _ _ _
        refine Sm.b (y_X5_get gk3 ghh) ?_
        rintro v4 _ rfl
        refine Sm.b (y_X0_one ghh) ?_
        rintro v6 _ rfl
        refine Sm.l ?_
        exact Sm.s rfl
    · rintro p8 _ rfl
      refine Sm.l ?_
      exact Sm.s (Ru.l (Rp.i rfl rfl))
set_option maxHeartbeats 2000000 in
theorem y_X3_nodesOf {t t' : Nat} {a1 : Int64} {h h' : tq_H} (gt : (Rr r d) t t') (gh : (Em r d W0 H0 al) h h') : Sm Eq (f_X3_nodesOf t a1 h) (f_X3_nodesOf t' a1 h') := by
  unfold f_X3_nodesOf
  refine Sm.b (Sm.w (y_X3_nodesOf_b5 gt gh) tq_N (Rp.i rfl rfl)) ?_
  rintro o10 _ rfl
  exact Sm.s rfl
set_option maxHeartbeats 2000000 in
theorem y_X3_spotsOf_b5 {i0 i0' : Nat} {i1 : Int64} {hh hh' : tq_H} (gi0 : (Rr r d) i0 i0') (ghh : (Em r d W0 H0 al) hh hh') : ∀ s s', (Rp Eq Eq) s s' → Sm (Ru (Rp Eq Eq) Eq) (f_X3_spotsOf_b5 i0 i1 hh s) (f_X3_spotsOf_b5 i0' i1 hh' s') := by
  rintro ⟨y3, y5⟩ ⟨_, _⟩ ⟨rfl, rfl⟩
  dsimp only [f_X3_spotsOf_b5]
  refine Sm.b (Sm.gi ghh gi0) ?_
  rintro x1 _ rfl
  refine Sm.i ?_ ?_
  · exact Sm.s (Ru.r rfl)
  · refine Sm.b (Sm.gr ghh gi0) ?_
    rintro k2 k2' gk2
    refine Sm.b (Sm.is ghh gk2) ?_
    intro _ _ _
    refine Sm.b (y_X5_get gk2 ghh) ?_
    rintro v3 _ rfl
    refine Sm.b (y_X0_holds ghh) ?_
    rintro v5 _ rfl
    refine Sm.b (R := Eq) ?_ ?_
    · refine Sm.i ?_ ?_
      · exact Sm.s rfl
      · refine Sm.b (y_X0_one ghh) ?_
        rintro v6 _ rfl
        refine Sm.l ?_
        exact Sm.s rfl
    · rintro p8 _ rfl
      refine Sm.l ?_
      exact Sm.s (Ru.l (Rp.i rfl rfl))
set_option maxHeartbeats 2000000 in
theorem y_X3_spotsOf {t t' : Nat} {a1 : Int64} {h h' : tq_H} (gt : (Rr r d) t t') (gh : (Em r d W0 H0 al) h h') : Sm Eq (f_X3_spotsOf t a1 h) (f_X3_spotsOf t' a1 h') := by
  unfold f_X3_spotsOf
  refine Sm.b (Sm.w (y_X3_spotsOf_b5 gt gh) tq_N (Rp.i rfl rfl)) ?_
  rintro o10 _ rfl
  exact Sm.s rfl
set_option maxHeartbeats 2000000 in
theorem y_X4_init {t t' : Nat} {h h' : tq_H} (ha : al) (gt : (Rr r d) t t') (gh : (Em r d W0 H0 al) h h') : Sm (Em r d W0 H0 al) (f_X4_init t h) (f_X4_init t' h') := by
  unfold f_X4_init
  refine Sm.n ha gh (okO_l rfl) (fun w1 w1' gw1 => ?_)
  refine Sm.b (y_X5_init ha (gh.nr ha) gw1) ?_
  rintro v2 v2' gv2
  refine Sm.b (Sm.pf gv2 gt (okV_r (gh.nr ha))) ?_
  rintro w3 w3' gw3
  refine Sm.n ha gw3 (okO_l rfl) (fun w4 w4' gw4 => ?_)
  refine Sm.b (y_X5_init ha (gw3.nr ha) gw4) ?_
  rintro v5 v5' gv5
  refine Sm.b (Sm.pf gv5 gt (okV_r (gw3.nr ha))) ?_
  rintro w6 w6' gw6
  refine Sm.n ha gw6 (okO_l rfl) (fun w7 w7' gw7 => ?_)
  refine Sm.b (y_X5_init ha (gw6.nr ha) gw7) ?_
  rintro v8 v8' gv8
  refine Sm.b (Sm.pf gv8 gt (okV_r (gw6.nr ha))) ?_
  rintro w9 w9' gw9
  refine Sm.n ha gw9 (okO_l rfl) (fun w10 w10' gw10 => ?_)
  refine Sm.b (y_X5_init ha (gw9.nr ha) gw10) ?_
  rintro v11 v11' gv11
  refine Sm.b (Sm.pf gv11 gt (okV_r (gw9.nr ha))) ?_
  rintro w12 w12' gw12
  refine Sm.n ha gw12 (okO_l rfl) (fun w13 w13' gw13 => ?_)
  refine Sm.b (y_X5_init ha (gw12.nr ha) gw13) ?_
  rintro v14 v14' gv14
  refine Sm.b (Sm.pf gv14 gt (okV_r (gw12.nr ha))) ?_
  rintro w15 w15' gw15
  refine Sm.n ha gw15 (okO_l rfl) (fun w16 w16' gw16 => ?_)
  refine Sm.b (y_X5_init ha (gw15.nr ha) gw16) ?_
  rintro v17 v17' gv17
  refine Sm.b (Sm.pf gv17 gt (okV_r (gw15.nr ha))) ?_
  rintro w18 w18' gw18
  refine Sm.n ha gw18 (okO_l rfl) (fun w19 w19' gw19 => ?_)
  refine Sm.b (y_X5_init ha (gw18.nr ha) gw19) ?_
  rintro v20 v20' gv20
  refine Sm.b (Sm.pf gv20 gt (okV_r (gw18.nr ha))) ?_
  rintro w21 w21' gw21
  refine Sm.n ha gw21 (okO_l rfl) (fun w22 w22' gw22 => ?_)
  refine Sm.b (y_X5_init ha (gw21.nr ha) gw22) ?_
  rintro v23 v23' gv23
  refine Sm.b (Sm.pf gv23 gt (okV_r (gw21.nr ha))) ?_
  rintro w24 w24' gw24
  refine Sm.n ha gw24 (okO_l rfl) (fun w25 w25' gw25 => ?_)
  refine Sm.b (y_X5_init ha (gw24.nr ha) gw25) ?_
  rintro v26 v26' gv26
  refine Sm.b (Sm.pf gv26 gt (okV_r (gw24.nr ha))) ?_
  rintro w27 w27' gw27
  refine Sm.b (Sm.pf gw27 gt (okV_i _)) ?_
  rintro w28 w28' gw28
  exact Sm.s gw28
set_option maxHeartbeats 2000000 in
theorem y_X4_count {t t' : Nat} {h h' : tq_H} (gt : (Rr r d) t t') (gh : (Em r d W0 H0 al) h h') : Sm Eq (f_X4_count t h) (f_X4_count t' h') := by
  unfold f_X4_count
  refine Sm.b (Sm.gi gh gt) ?_
  rintro x1 _ rfl
  exact Sm.s rfl
set_option maxHeartbeats 2000000 in
theorem y_X4_addPath {t t' : Nat} {h h' : tq_H} (gt : (Rr r d) t t') (gh : (Em r d W0 H0 al) h h') : Sm (Rp Eq (Em r d W0 H0 al)) (f_X4_addPath t h) (f_X4_addPath t' h') := by
  unfold f_X4_addPath
  refine Sm.b (Sm.gi gh gt) ?_
  rintro x1 _ rfl
  refine Sm.b (Sm.pf gh gt (okV_i _)) ?_
  rintro w2 w2' gw2
  refine Sm.b (Sm.gi gw2 gt) ?_
  rintro x3 _ rfl
  exact Sm.s (Rp.i rfl gw2)
set_option maxHeartbeats 2000000 in
theorem y_X4_addStep {t t' : Nat} {a1 : Int32} {a2 : Int32} {a3 : Int32} {a4 : Int32} {h h' : tq_H} (gt : (Rr r d) t t') (gh : (Em r d W0 H0 al) h h') : Sm (Rp Eq (Em r d W0 H0 al)) (f_X4_addStep t a1 a2 a3 a4 h) (f_X4_addStep t' a1 a2 a3 a4 h') := by
  unfold f_X4_addStep
  refine Sm.b (Sm.gr gh gt) ?_
  rintro k1 k1' gk1
  refine Sm.b (Sm.is gh gk1) ?_
  intro _ _ _
  refine Sm.b (y_X5_get gk1 gh) ?_
  rintro v2 _ rfl
  refine Sm.b (Sm.is gh gt) ?_
  intro _ _ _
  refine Sm.b (y_X4_stepAt gt gh) ?_
  rintro v4 _ rfl
  refine Sm.b (Sm.gr gh gt) ?_
  rintro k6 k6' gk6
  refine Sm.b (Sm.is gh gk6) ?_
  intro _ _ _
  refine Sm.b (y_X5_set gk6 gh) ?_
  rintro v7 v7' gv7
  refine Sm.b (Sm.gr gv7 gt) ?_
  rintro k9 k9' gk9
  refine Sm.b (Sm.is gv7 gk9) ?_
  intro _ _ _
  refine Sm.b (y_X5_set gk9 gv7) ?_
  rintro v10 v10' gv10
  refine Sm.b (Sm.gr gv10 gt) ?_
  rintro k12 k12' gk12
  refine Sm.b (Sm.is gv10 gk12) ?_
  intro _ _ _
  refine Sm.b (y_X5_set gk12 gv10) ?_
  rintro v13 v13' gv13
  refine Sm.b (Sm.gr gv13 gt) ?_
  rintro k15 k15' gk15
  refine Sm.b (Sm.is gv13 gk15) ?_
  intro _ _ _
  refine Sm.b (y_X5_set gk15 gv13) ?_
  rintro v16 v16' gv16
  exact Sm.s (Rp.i rfl gv16)
set_option maxHeartbeats 2000000 in
theorem y_X4_addCondition {t t' : Nat} {a1 : Int32} {a2 : Int32} {a3 : Int32} {a4 : Int32} {a5 : Int32} {h h' : tq_H} (gt : (Rr r d) t t') (gh : (Em r d W0 H0 al) h h') : Sm (Rp Eq (Em r d W0 H0 al)) (f_X4_addCondition t a1 a2 a3 a4 a5 h) (f_X4_addCondition t' a1 a2 a3 a4 a5 h') := by
  unfold f_X4_addCondition
  refine Sm.b (Sm.gr gh gt) ?_
  rintro k1 k1' gk1
  refine Sm.b (Sm.is gh gk1) ?_
  intro _ _ _
  refine Sm.b (y_X5_get gk1 gh) ?_
  rintro v2 _ rfl
  refine Sm.b (Sm.is gh gt) ?_
  intro _ _ _
  refine Sm.b (y_X4_stepAt gt gh) ?_
  rintro v4 _ rfl
  refine Sm.b (Sm.gr gh gt) ?_
  rintro k6 k6' gk6
  refine Sm.b (Sm.is gh gk6) ?_
  intro _ _ _
  refine Sm.b (y_X5_get gk6 gh) ?_
  rintro v7 _ rfl
  refine Sm.b (Sm.is gh gt) ?_
  intro _ _ _
  refine Sm.b (y_X4_conditionAt gt gh) ?_
  rintro v9 _ rfl
  refine Sm.b (Sm.gr gh gt) ?_
  rintro k11 k11' gk11
  refine Sm.b (Sm.is gh gk11) ?_
  intro _ _ _
  refine Sm.b (y_X5_set gk11 gh) ?_
  rintro v12 v12' gv12
  refine Sm.b (Sm.gr gv12 gt) ?_
  rintro k14 k14' gk14
  refine Sm.b (Sm.is gv12 gk14) ?_
  intro _ _ _
  refine Sm.b (y_X5_set gk14 gv12) ?_
  rintro v15 v15' gv15
  refine Sm.b (Sm.gr gv15 gt) ?_
  rintro k17 k17' gk17
  refine Sm.b (Sm.is gv15 gk17) ?_
  intro _ _ _
  refine Sm.b (y_X5_set gk17 gv15) ?_
  rintro v18 v18' gv18
  refine Sm.b (Sm.gr gv18 gt) ?_
  rintro k20 k20' gk20
  refine Sm.b (Sm.is gv18 gk20) ?_
  intro _ _ _
  refine Sm.b (y_X5_set gk20 gv18) ?_
  rintro v21 v21' gv21
  refine Sm.b (Sm.gr gv21 gt) ?_
  rintro k23 k23' gk23
  refine Sm.b (Sm.is gv21 gk23) ?_
  intro _ _ _
  refine Sm.b (y_X5_set gk23 gv21) ?_
  rintro v24 v24' gv24
  exact Sm.s (Rp.i rfl gv24)
set_option maxHeartbeats 2000000 in
theorem y_X4_conditionsOfLast {t t' : Nat} {a1 : Int32} {h h' : tq_H} (gt : (Rr r d) t t') (gh : (Em r d W0 H0 al) h h') : Sm Eq (f_X4_conditionsOfLast t a1 h) (f_X4_conditionsOfLast t' a1 h') := by
  unfold f_X4_conditionsOfLast
  refine Sm.b (Sm.gr gh gt) ?_
  rintro k1 k1' gk1
  refine Sm.b (Sm.gr gh gt) ?_
  rintro k2 k2' gk2
  refine Sm.b (Sm.is gh gk2) ?_
  intro _ _ _
  refine Sm.b (y_X5_get gk2 gh) ?_
  rintro v3 _ rfl
  refine Sm.b (Sm.is gh gt) ?_
  intro _ _ _
  refine Sm.b (y_X4_stepAt gt gh) ?_
  rintro v5 _ rfl
  refine Sm.b (Sm.is gh gk1) ?_
  intro _ _ _
  refine Sm.b (y_X5_get gk1 gh) ?_
  rintro v7 _ rfl
  exact Sm.s rfl
set_option maxHeartbeats 2000000 in
theorem y_X4_nameBelow {t t' : Nat} {a1 : Int32} {h h' : tq_H} (gt : (Rr r d) t t') (gh : (Em r d W0 H0 al) h h') : Sm Eq (f_X4_nameBelow t a1 h) (f_X4_nameBelow t' a1 h') := by
  unfold f_X4_nameBelow
  refine Sm.b (Sm.is gh gt) ?_
  intro _ _ _
  refine Sm.b (y_X4_stepAt gt gh) ?_
  rintro v1 _ rfl
  refine Sm.b (Sm.gr gh gt) ?_
  rintro k3 k3' gk3
  refine Sm.b (Sm.is gh gk3) ?_
  intro _ _ _
  refine Sm.b (y_X5_get gk3 gh) ?_
  rintro v4 _ rfl
  refine Sm.b (R := Eq) ?_ ?_
  · refine Sm.i ?_ ?_
    · exact Sm.s rfl
    · refine Sm.b (Sm.gr gh gt) ?_
      rintro k6 k6' gk6
      refine Sm.b (Sm.is gh gk6) ?_
      intro _ _ _
      refine Sm.b (y_X5_get gk6 gh) ?_
      rintro v7 _ rfl
      refine Sm.i ?_ ?_
      · refine Sm.b (Sm.gr gh gt) ?_
        rintro k9 k9' gk9
        refine Sm.b (Sm.is gh gk9) ?_
        intro _ _ _
        refine Sm.b (y_X5_get gk9 gh) ?_
        rintro v10 _ rfl
        refine Sm.i ?_ ?_
        · exact Sm.s rfl
        · exact Sm.s rfl
      · exact Sm.s rfl
  · rintro p12 _ rfl
    refine Sm.b (R := Eq) ?_ ?_
    · refine Sm.i ?_ ?_
      · exact Sm.s rfl
      · refine Sm.b (Sm.gr gh gt) ?_
        rintro k13 k13' gk13
        refine Sm.b (Sm.is gh gk13) ?_
        intro _ _ _
        refine Sm.b (y_X5_get gk13 gh) ?_
        rintro v14 _ rfl
        exact Sm.s rfl
    · rintro p16 _ rfl
      exact Sm.s rfl
set_option maxHeartbeats 2000000 in
theorem y_X4_goesDown {a0 : Int32} {h h' : tq_H} (gh : (Em r d W0 H0 al) h h') : Sm Eq (f_X4_goesDown a0 h) (f_X4_goesDown a0 h') := by
  unfold f_X4_goesDown
  refine Sm.l ?_
  refine Sm.b (Sm.r) ?_
  rintro z2 _ rfl
  exact Sm.s rfl
set_option maxHeartbeats 2000000 in
theorem y_X4_staysAtNode_b2 {i0 i0' : Nat} {i1 : Int32} {hh hh' : tq_H} (gi0 : (Rr r d) i0 i0') (ghh : (Em r d W0 H0 al) hh hh') : ∀ s s', Eq s s' → Sm (Ru Eq (Ru Eq Eq)) (f_X4_staysAtNode_b2 i0 i1 hh s) (f_X4_staysAtNode_b2 i0' i1 hh' s') := by
  rintro y2 _ rfl
  dsimp only [f_X4_staysAtNode_b2]
  refine Sm.b (Sm.gr ghh gi0) ?_
  rintro k1 k1' gk1
  refine Sm.b (Sm.is ghh gk1) ?_
  intro _ _ _
  refine Sm.b (y_X5_get gk1 ghh) ?_
  rintro v2 _ rfl
  refine Sm.i ?_ ?_
  · exact Sm.s (Ru.r (Ru.l rfl))
  · refine Sm.b (Sm.is ghh gi0) ?_
    intro _ _ _
    refine Sm.b (y_X4_stepAt gi0 ghh) ?_
    rintro v4 _ rfl
    refine Sm.b (Sm.gr ghh gi0) ?_
    rintro k6 k6' gk6
    refine Sm.b (Sm.is ghh gk6) ?_
    intro _ _ _
    refine Sm.b (y_X5_get gk6 ghh) ?_
    rintro v7 _ rfl
    refine Sm.b (R := Eq) ?_ ?_
    · refine Sm.i ?_ ?_
      · exact Sm.s rfl
      · refine Sm.b (Sm.gr ghh gi0) ?_
        rintro k9 k9' gk9
        refine Sm.b (Sm.is ghh gk9) ?_
        intro _ _ _
        refine Sm.b (y_X5_get gk9 ghh) ?_
        rintro v10 _ rfl
        refine Sm.i ?_ ?_
        · exact Sm.s rfl
        · exact Sm.s rfl
    · rintro p12 _ rfl
      refine Sm.i ?_ ?_
      · exact Sm.s (Ru.r (Ru.r rfl))
      · refine Sm.b (Sm.gr ghh gi0) ?_
        rintro k13 k13' gk13
        refine Sm.b (Sm.is ghh gk13) ?_
        intro _ _ _
        refine Sm.b (y_X5_get gk13 ghh) ?_
        rintro v14 _ rfl
        refine Sm.i ?_ ?_
        · refine Sm.l ?_
          exact Sm.s (Ru.l rfl)
        · exact Sm.s (Ru.r (Ru.r rfl))
set_option maxHeartbeats 2000000 in
theorem y_X4_staysAtNode {t t' : Nat} {a1 : Int32} {h h' : tq_H} (gt : (Rr r d) t t') (gh : (Em r d W0 H0 al) h h') : Sm Eq (f_X4_staysAtNode t a1 h) (f_X4_staysAtNode t' a1 h') := by
  unfold f_X4_staysAtNode
  refine Sm.u (Sm.w (y_X4_staysAtNode_b2 gt gh) tq_N rfl) ?_ ?_
  · rintro o17 _ rfl
    exact Sm.s rfl
  · rintro e9 _ rfl
    exact Sm.s rfl
set_option maxHeartbeats 2000000 in
theorem y_X4_isTellableAtOnce {t t' : Nat} {a1 : Int32} {h h' : tq_H} (gt : (Rr r d) t t') (gh : (Em r d W0 H0 al) h h') : Sm Eq (f_X4_isTellableAtOnce t a1 h) (f_X4_isTellableAtOnce t' a1 h') := by
  unfold f_X4_isTellableAtOnce
  refine Sm.b (Sm.gr gh gt) ?_
  rintro k1 k1' gk1
  refine Sm.b (Sm.is gh gk1) ?_
  intro _ _ _
  refine Sm.b (y_X5_get gk1 gh) ?_
  rintro v2 _ rfl
  refine Sm.i ?_ ?_
  · refine Sm.b (Sm.gr gh gt) ?_
    rintro k11 k11' gk11
    refine Sm.b (Sm.is gh gk11) ?_
    intro _ _ _
    refine Sm.b (y_X5_get gk11 gh) ?_
    rintro v12 _ rfl
    refine Sm.l ?_
    refine Sm.b (Sm.r) ?_
    rintro z15 _ rfl
    exact Sm.s rfl
  · refine Sm.b (R := Eq) ?_ ?_
    · refine Sm.i ?_ ?_
      · exact Sm.s rfl
      · refine Sm.b (Sm.gr gh gt) ?_
        rintro k4 k4' gk4
        refine Sm.b (Sm.is gh gk4) ?_
        intro _ _ _
        refine Sm.b (y_X5_get gk4 gh) ?_
        rintro v5 _ rfl
        refine Sm.b (Sm.is gh gt) ?_
        intro _ _ _
        refine Sm.b (y_X4_staysAtNode gt gh) ?_
        rintro v7 _ rfl
        refine Sm.i ?_ ?_
        · exact Sm.s rfl
        · exact Sm.s rfl
    · rintro p9 _ rfl
      refine Sm.b (Sm.r) ?_
      rintro z10 _ rfl
      exact Sm.s rfl
set_option maxHeartbeats 2000000 in
theorem y_X4_canStream_b40 {i0 i0' : Nat} {i1 : Int32} {i2 : Int32} {i3 : Int32} {hh hh' : tq_H} (gi0 : (Rr r d) i0 i0') (ghh : (Em r d W0 H0 al) hh hh') : ∀ s s', Eq s s' → Sm (Ru Eq (Ru Eq Eq)) (f_X4_canStream_b40 i0 i1 i2 i3 hh s) (f_X4_canStream_b40 i0' i1 i2 i3 hh' s') := by
  rintro y4 _ rfl
  dsimp only [f_X4_canStream_b40]
  refine Sm.b (Sm.gr ghh gi0) ?_
  rintro k10 k10' gk10
  refine Sm.b (Sm.is ghh gk10) ?_
  intro _ _ _
  refine Sm.b (y_X5_get gk10 ghh) ?_
  rintro v11 _ rfl
  refine Sm.i ?_ ?_
  · exact Sm.s (Ru.r (Ru.l rfl))
  · refine Sm.b (Sm.is ghh gi0) ?_
    intro _ _ _
    refine Sm.b (y_X4_conditionAt gi0 ghh) ?_
    rintro v13 _ rfl
    refine Sm.b (Sm.is ghh gi0) ?_
    intro _ _ _
    refine Sm.b (y_X4_isTellableAtOnce gi0 ghh) ?_
    rintro v15 _ rfl
    refine Sm.i ?_ ?_
    · exact Sm.s (Ru.r (Ru.r rfl))
    · refine Sm.l ?_
      exact Sm.s (Ru.l rfl)
set_option maxHeartbeats 2000000 in
theorem y_X4_canStream_b2 {i0 i0' : Nat} {i1 : Int32} {hh hh' : tq_H} (gi0 : (Rr r d) i0 i0') (ghh : (Em r d W0 H0 al) hh hh') : ∀ s s', Eq s s' → Sm (Ru Eq (Ru Eq Eq)) (f_X4_canStream_b2 i0 i1 hh s) (f_X4_canStream_b2 i0' i1 hh' s') := by
  rintro y2 _ rfl
  dsimp only [f_X4_canStream_b2]
  refine Sm.b (Sm.gr ghh gi0) ?_
  rintro k1 k1' gk1
  refine Sm.b (Sm.is ghh gk1) ?_
  intro _ _ _
  refine Sm.b (y_X5_get gk1 ghh) ?_
  rintro v2 _ rfl
  refine Sm.i ?_ ?_
  · exact Sm.s (Ru.r (Ru.l rfl))
  · refine Sm.b (Sm.is ghh gi0) ?_
    intro _ _ _
    refine Sm.b (y_X4_stepAt gi0 ghh) ?_
    rintro v4 _ rfl
    refine Sm.b (Sm.gr ghh gi0) ?_
    rintro k6 k6' gk6
    refine Sm.b (Sm.is ghh gk6) ?_
    intro _ _ _
    refine Sm.b (y_X5_get gk6 ghh) ?_
    rintro v7 _ rfl
    refine Sm.b (y_X4_goesDown ghh) ?_
    rintro v9 _ rfl
    refine Sm.i ?_ ?_
    · exact Sm.s (Ru.r (Ru.r rfl))
    · refine Sm.u (Sm.w (y_X4_canStream_b40 gi0 ghh) tq_N rfl) ?_ ?_
      · rintro o18 _ rfl
        refine Sm.l ?_
        exact Sm.s (Ru.l rfl)
      · rintro e9 _ rfl
        exact Sm.s (Ru.r (Ru.r rfl))
set_option maxHeartbeats 2000000 in
theorem y_X4_canStream {t t' : Nat} {a1 : Int32} {h h' : tq_H} (gt : (Rr r d) t t') (gh : (Em r d W0 H0 al) h h') : Sm Eq (f_X4_canStream t a1 h) (f_X4_canStream t' a1 h') := by
  unfold f_X4_canStream
  refine Sm.u (Sm.w (y_X4_canStream_b2 gt gh) tq_N rfl) ?_ ?_
  · rintro o20 _ rfl
    exact Sm.s rfl
  · rintro e9 _ rfl
    exact Sm.s rfl
set_option maxHeartbeats 2000000 in
theorem y_X8_looksLike {t t' : Nat} {a1 : Int32} {a2 a2' : Nat} {a3 : Int32} {h h' : tq_H} (gt : (Rr r d) t t') (ga2 : (Rr r d) a2 a2') (gh : (Em r d W0 H0 al) h h') : Sm Eq (f_X8_looksLike t a1 a2 a3 h) (f_X8_looksLike t' a1 a2' a3 h') := by
  unfold f_X8_looksLike
  refine Sm.b (Sm.gr gh gt) ?_
  rintro k1 k1' gk1
  refine Sm.b (Sm.is gh gk1) ?_
  intro _ _ _
  refine Sm.b (y_X5_get gk1 gh) ?_
  rintro v2 _ rfl
  refine Sm.b (Sm.gr gh ga2) ?_
  rintro k4 k4' gk4
  refine Sm.b (Sm.is gh gk4) ?_
  intro _ _ _
  refine Sm.b (y_X5_get gk4 gh) ?_
  rintro v5 _ rfl
  refine Sm.b (R := Eq) ?_ ?_
  · refine Sm.i ?_ ?_
    · refine Sm.b (Sm.gr gh gt) ?_
      rintro k7 k7' gk7
      refine Sm.b (Sm.is gh gk7) ?_
      intro _ _ _
      refine Sm.b (y_X5_get gk7 gh) ?_
      rintro v8 _ rfl
      refine Sm.b (Sm.gr gh ga2) ?_
      rintro k10 k10' gk10
      refine Sm.b (Sm.is gh gk10) ?_
      intro _ _ _
      refine Sm.b (y_X5_get gk10 gh) ?_
      rintro v11 _ rfl
      refine Sm.i ?_ ?_
      · refine Sm.b (Sm.gr gh gt) ?_
        rintro k13 k13' gk13
        refine Sm.b (Sm.is gh gk13) ?_
        intro _ _ _
        refine Sm.b (y_X5_get gk13 gh) ?_
        rintro v14 _ rfl
        refine Sm.b (Sm.gr gh ga2) ?_
        rintro k16 k16' gk16
        refine Sm.b (Sm.is gh gk16) ?_
        intro _ _ _
        refine Sm.b (y_X5_get gk16 gh) ?_
        rintro v17 _ rfl
        refine Sm.i ?_ ?_
        · refine Sm.b (Sm.gr gh gt) ?_
          rintro k19 k19' gk19
          refine Sm.b (Sm.is gh gk19) ?_
          intro _ _ _
          refine Sm.b (y_X5_get gk19 gh) ?_
          rintro v20 _ rfl
          refine Sm.b (Sm.gr gh ga2) ?_
          rintro k22 k22' gk22
          refine Sm.b (Sm.is gh gk22) ?_
          intro _ _ _
          refine Sm.b (y_X5_get gk22 gh) ?_
          rintro v23 _ rfl
          refine Sm.i ?_ ?_
          · exact Sm.s rfl
          · exact Sm.s rfl
        · exact Sm.s rfl
      · exact Sm.s rfl
    · exact Sm.s rfl
  · rintro p25 _ rfl
    refine Sm.b (Sm.r) ?_
    rintro z26 _ rfl
    exact Sm.s rfl
set_option maxHeartbeats 2000000 in
theorem y_X8_valueAt {t t' : Nat} {a1 : Int32} {a2 : Int64} {h h' : tq_H} (gt : (Rr r d) t t') (gh : (Em r d W0 H0 al) h h') : Sm Eq (f_X8_valueAt t a1 a2 h) (f_X8_valueAt t' a1 a2 h') := by
  unfold f_X8_valueAt
  refine Sm.b (Sm.gr gh gt) ?_
  rintro k1 k1' gk1
  refine Sm.b (Sm.is gh gk1) ?_
  intro _ _ _
  refine Sm.b (y_X3_elements gk1 gh) ?_
  rintro v2 _ rfl
  refine Sm.b (y_X0_holds gh) ?_
  rintro v4 _ rfl
  refine Sm.i ?_ ?_
  · refine Sm.b (Sm.gr gh gt) ?_
    rintro k18 k18' gk18
    refine Sm.b (Sm.gr gh gt) ?_
    rintro k19 k19' gk19
    refine Sm.b (Sm.is gh gk19) ?_
    intro _ _ _
    refine Sm.b (y_X3_nodeAt gk19 gh) ?_
    rintro v20 _ rfl
    refine Sm.b (Sm.is gh gk18) ?_
    intro _ _ _
    refine Sm.b (y_X5_get gk18 gh) ?_
    rintro v22 _ rfl
    exact Sm.s rfl
  · refine Sm.b (Sm.gr gh gt) ?_
    rintro k5 k5' gk5
    refine Sm.b (Sm.is gh gk5) ?_
    intro _ _ _
    refine Sm.b (y_X3_below gk5 gh) ?_
    rintro v6 _ rfl
    refine Sm.b (Sm.gr gh gt) ?_
    rintro k8 k8' gk8
    refine Sm.b (Sm.is gh gk8) ?_
    intro _ _ _
    refine Sm.b (y_X3_passing gk8 gh) ?_
    rintro v9 _ rfl
    refine Sm.l ?_
    refine Sm.b (Sm.gr gh gt) ?_
    rintro k12 k12' gk12
    refine Sm.b (Sm.gr gh gt) ?_
    rintro k13 k13' gk13
    refine Sm.b (Sm.is gh gk13) ?_
    intro _ _ _
    refine Sm.b (y_X3_nodeOfSet gk13 gh) ?_
    rintro v14 _ rfl
    refine Sm.b (Sm.is gh gk12) ?_
    intro _ _ _
    refine Sm.b (y_X5_get gk12 gh) ?_
    rintro v16 _ rfl
    exact Sm.s rfl
set_option maxHeartbeats 2000000 in
theorem y_X8_init {t t' : Nat} {h h' : tq_H} (ha : al) (gt : (Rr r d) t t') (gh : (Em r d W0 H0 al) h h') : Sm (Em r d W0 H0 al) (f_X8_init t h) (f_X8_init t' h') := by
  unfold f_X8_init
  refine Sm.n ha gh (okO_l rfl) (fun w1 w1' gw1 => ?_)
  refine Sm.b (y_X3_init ha (gh.nr ha) gw1) ?_
  rintro v2 v2' gv2
  refine Sm.b (Sm.pf gv2 gt (okV_r (gh.nr ha))) ?_
  rintro w3 w3' gw3
  refine Sm.n ha gw3 (okO_l rfl) (fun w4 w4' gw4 => ?_)
  refine Sm.b (y_X5_init ha (gw3.nr ha) gw4) ?_
  rintro v5 v5' gv5
  refine Sm.b (Sm.pf gv5 gt (okV_r (gw3.nr ha))) ?_
  rintro w6 w6' gw6
  refine Sm.n ha gw6 (okO_l rfl) (fun w7 w7' gw7 => ?_)
  refine Sm.b (y_X5_init ha (gw6.nr ha) gw7) ?_
  rintro v8 v8' gv8
  refine Sm.b (Sm.pf gv8 gt (okV_r (gw6.nr ha))) ?_
  rintro w9 w9' gw9
  refine Sm.n ha gw9 (okO_l rfl) (fun w10 w10' gw10 => ?_)
  refine Sm.b (y_X5_init ha (gw9.nr ha) gw10) ?_
  rintro v11 v11' gv11
  refine Sm.b (Sm.pf gv11 gt (okV_r (gw9.nr ha))) ?_
  rintro w12 w12' gw12
  refine Sm.n ha gw12 (okO_l rfl) (fun w13 w13' gw13 => ?_)
  refine Sm.b (y_X5_init ha (gw12.nr ha) gw13) ?_
  rintro v14 v14' gv14
  refine Sm.b (Sm.pf gv14 gt (okV_r (gw12.nr ha))) ?_
  rintro w15 w15' gw15
  refine Sm.n ha gw15 (okO_l rfl) (fun w16 w16' gw16 => ?_)
  refine Sm.b (y_X5_init ha (gw15.nr ha) gw16) ?_
  rintro v17 v17' gv17
  refine Sm.b (Sm.pf gv17 gt (okV_r (gw15.nr ha))) ?_
  rintro w18 w18' gw18
  refine Sm.n ha gw18 (okO_l rfl) (fun w19 w19' gw19 => ?_)
  refine Sm.b (y_X5_init ha (gw18.nr ha) gw19) ?_
  rintro v20 v20' gv20
  refine Sm.b (Sm.pf gv20 gt (okV_r (gw18.nr ha))) ?_
  rintro w21 w21' gw21
  refine Sm.n ha gw21 (okO_l rfl) (fun w22 w22' gw22 => ?_)
  refine Sm.b (y_X5_init ha (gw21.nr ha) gw22) ?_
  rintro v23 v23' gv23
  refine Sm.b (Sm.pf gv23 gt (okV_r (gw21.nr ha))) ?_
  rintro w24 w24' gw24
  refine Sm.n ha gw24 (okO_l rfl) (fun w25 w25' gw25 => ?_)
  refine Sm.b (y_X5_init ha (gw24.nr ha) gw25) ?_
  rintro v26 v26' gv26
  refine Sm.b (Sm.pf gv26 gt (okV_r (gw24.nr ha))) ?_
  rintro w27 w27' gw27
  refine Sm.n ha gw27 (okO_l rfl) (fun w28 w28' gw28 => ?_)
  refine Sm.b (y_X5_init ha (gw27.nr ha) gw28) ?_
  rintro v29 v29' gv29
  refine Sm.b (Sm.pf gv29 gt (okV_r (gw27.nr ha))) ?_
  rintro w30 w30' gw30
  refine Sm.b (Sm.pf gw30 gt (okV_i _)) ?_
  rintro w31 w31' gw31
  exact Sm.s gw31
set_option maxHeartbeats 2000000 in
theorem y_X8_madeCount {t t' : Nat} {h h' : tq_H} (gt : (Rr r d) t t') (gh : (Em r d W0 H0 al) h h') : Sm Eq (f_X8_madeCount t h) (f_X8_madeCount t' h') := by
  unfold f_X8_madeCount
  refine Sm.b (Sm.gi gh gt) ?_
  rintro x1 _ rfl
  exact Sm.s rfl
set_option maxHeartbeats 2000000 in
theorem y_X8_keepMade {t t' : Nat} {a1 : Int32} {h h' : tq_H} (gt : (Rr r d) t t') (gh : (Em r d W0 H0 al) h h') : Sm (Em r d W0 H0 al) (f_X8_keepMade t a1 h) (f_X8_keepMade t' a1 h') := by
  unfold f_X8_keepMade
  refine Sm.b (Sm.pf gh gt (okV_i _)) ?_
  rintro w1 w1' gw1
  exact Sm.s gw1
set_option maxHeartbeats 2000000 in
theorem y_X8_make {t t' : Nat} {a1 : Int32} {a2 : Int32} {a3 : Int32} {h h' : tq_H} (gt : (Rr r d) t t') (gh : (Em r d W0 H0 al) h h') : Sm (Rp Eq (Em r d W0 H0 al)) (f_X8_make t a1 a2 a3 h) (f_X8_make t' a1 a2 a3 h') := by
  unfold f_X8_make
  refine Sm.b (Sm.gi gh gt) ?_
  rintro x1 _ rfl
  refine Sm.b (Sm.gi gh gt) ?_
  rintro x2 _ rfl
  refine Sm.b (Sm.pf gh gt (okV_i _)) ?_
  rintro w3 w3' gw3
  refine Sm.b (Sm.gr gw3 gt) ?_
  rintro k4 k4' gk4
  refine Sm.b (Sm.is gw3 gk4) ?_
  intro _ _ _
  refine Sm.b (y_X5_set gk4 gw3) ?_
  rintro v5 v5' gv5
  refine Sm.b (Sm.gr gv5 gt) ?_
  rintro k7 k7' gk7
  refine Sm.b (Sm.is gv5 gk7) ?_
  intro _ _ _
  refine Sm.b (y_X5_set gk7 gv5) ?_
  rintro v8 v8' gv8
  refine Sm.b (Sm.gr gv8 gt) ?_
  rintro k10 k10' gk10
  refine Sm.b (Sm.is gv8 gk10) ?_
  intro _ _ _
  refine Sm.b (y_X5_set gk10 gv8) ?_
  rintro v11 v11' gv11
  refine Sm.b (Sm.gr gv11 gt) ?_
  rintro k13 k13' gk13
  refine Sm.b (Sm.is gv11 gk13) ?_
  intro _ _ _
  refine Sm.b (y_X5_set gk13 gv11) ?_
  rintro v14 v14' gv14
  refine Sm.b (Sm.gr gv14 gt) ?_
  rintro k16 k16' gk16
  refine Sm.b (Sm.is gv14 gk16) ?_
  intro _ _ _
  refine Sm.b (y_X5_set gk16 gv14) ?_
  rintro v17 v17' gv17
  exact Sm.s (Rp.i rfl gv17)
set_option maxHeartbeats 2000000 in
theorem y_X8_append {t t' : Nat} {a1 : Int32} {a2 : Int32} {h h' : tq_H} (gt : (Rr r d) t t') (gh : (Em r d W0 H0 al) h h') : Sm (Em r d W0 H0 al) (f_X8_append t a1 a2 h) (f_X8_append t' a1 a2 h') := by
  unfold f_X8_append
  refine Sm.b (Sm.gr gh gt) ?_
  rintro k1 k1' gk1
  refine Sm.b (Sm.is gh gk1) ?_
  intro _ _ _
  refine Sm.b (y_X5_set gk1 gh) ?_
  rintro v2 v2' gv2
  refine Sm.b (Sm.gr gv2 gt) ?_
  rintro k4 k4' gk4
  refine Sm.b (Sm.is gv2 gk4) ?_
  intro _ _ _
  refine Sm.b (y_X5_get gk4 gv2) ?_
  rintro v5 _ rfl
  refine Sm.b (R := (Em r d W0 H0 al)) ?_ ?_
  · refine Sm.i ?_ ?_
    · refine Sm.b (Sm.gr gv2 gt) ?_
      rintro k10 k10' gk10
      refine Sm.b (Sm.is gv2 gk10) ?_
      intro _ _ _
      refine Sm.b (y_X5_set gk10 gv2) ?_
      rintro v11 v11' gv11
      exact Sm.s gv11
    · refine Sm.b (Sm.gr gv2 gt) ?_
      rintro k7 k7' gk7
      refine Sm.b (Sm.is gv2 gk7) ?_
      intro _ _ _
      refine Sm.b (y_X5_set gk7 gv2) ?_
      rintro v8 v8' gv8
      exact Sm.s gv8
  · rintro p13 p13' gp13
    refine Sm.b (Sm.gr gp13 gt) ?_
    rintro k14 k14' gk14
    refine Sm.b (Sm.is gp13 gk14) ?_
    intro _ _ _
    refine Sm.b (y_X5_set gk14 gp13) ?_
    rintro v15 v15' gv15
    exact Sm.s gv15
set_option maxHeartbeats 2000000 in
theorem y_X8_copyLoose {t t' : Nat} {a1 a1' : Nat} {h h' : tq_H} (gt : (Rr r d) t t') (ga1 : (Rr r d) a1 a1') (gh : (Em r d W0 H0 al) h h') : Sm (Em r d W0 H0 al) (f_X8_copyLoose t a1 h) (f_X8_copyLoose t' a1' h') := by
  unfold f_X8_copyLoose
  refine Sm.b (Sm.gi gh ga1) ?_
  rintro x1 _ rfl
  refine Sm.b (Sm.pf gh gt (okV_i _)) ?_
  rintro w2 w2' gw2
  refine Sm.b (Sm.gr gw2 gt) ?_
  rintro k3 k3' gk3
  refine Sm.b (Sm.gr gw2 ga1) ?_
  rintro k4 k4' gk4
  refine Sm.b (Sm.is gw2 gk3) ?_
  intro _ _ _
  refine Sm.b (y_X5_copy gk3 gk4 gw2) ?_
  rintro v5 v5' gv5
  refine Sm.b (Sm.gr gv5 gt) ?_
  rintro k7 k7' gk7
  refine Sm.b (Sm.gr gv5 ga1) ?_
  rintro k8 k8' gk8
  refine Sm.b (Sm.is gv5 gk7) ?_
  intro _ _ _
  refine Sm.b (y_X5_copy gk7 gk8 gv5) ?_
  rintro v9 v9' gv9
  refine Sm.b (Sm.gr gv9 gt) ?_
  rintro k11 k11' gk11
  refine Sm.b (Sm.gr gv9 ga1) ?_
  rintro k12 k12' gk12
  refine Sm.b (Sm.is gv9 gk11) ?_
  intro _ _ _
  refine Sm.b (y_X5_copy gk11 gk12 gv9) ?_
  rintro v13 v13' gv13
  refine Sm.b (Sm.gr gv13 gt) ?_
  rintro k15 k15' gk15
  refine Sm.b (Sm.gr gv13 ga1) ?_
  rintro k16 k16' gk16
  refine Sm.b (Sm.is gv13 gk15) ?_
  intro _ _ _
  refine Sm.b (y_X5_copy gk15 gk16 gv13) ?_
  rintro v17 v17' gv17
  refine Sm.b (Sm.gr gv17 gt) ?_
  rintro k19 k19' gk19
  refine Sm.b (Sm.gr gv17 ga1) ?_
  rintro k20 k20' gk20
  refine Sm.b (Sm.is gv17 gk19) ?_
  intro _ _ _
  refine Sm.b (y_X5_copy gk19 gk20 gv17) ?_
  rintro v21 v21' gv21
  refine Sm.b (Sm.gr gv21 gt) ?_
  rintro k23 k23' gk23
  refine Sm.b (Sm.is gv21 gk23) ?_
  intro _ _ _
  refine Sm.b (y_X5_setAll gk23 gv21) ?_
  rintro v24 v24' gv24
  refine Sm.b (Sm.gr gv24 gt) ?_
  rintro k26 k26' gk26
  refine Sm.b (Sm.is gv24 gk26) ?_
  intro _ _ _
  refine Sm.b (y_X5_setAll gk26 gv24) ?_
  rintro v27 v27' gv27
  refine Sm.b (Sm.gr gv27 gt) ?_
  rintro k29 k29' gk29
  refine Sm.b (Sm.is gv27 gk29) ?_
  intro _ _ _
  refine Sm.b (y_X5_setAll gk29 gv27) ?_
  rintro v30 v30' gv30
  refine Sm.b (Sm.gr gv30 gt) ?_
  rintro k32 k32' gk32
  refine Sm.b (Sm.is gv30 gk32) ?_
  intro _ _ _
  refine Sm.b (y_X5_setAll gk32 gv30) ?_
  rintro v33 v33' gv33
  exact Sm.s gv33
set_option maxHeartbeats 2000000 in
theorem y_X8_following_b25 {i0 i0' : Nat} {hh hh' : tq_H} (gi0 : (Rr r d) i0 i0') (ghh : (Em r d W0 H0 al) hh hh') : ∀ s s', (Rp Eq Eq) s s' → Sm (Ru (Rp Eq Eq) (Ru Eq Eq)) (f_X8_following_b25 i0 hh s) (f_X8_following_b25 i0' hh' s') := by
  rintro ⟨y2, y3⟩ ⟨_, _⟩ ⟨rfl, rfl⟩
  dsimp only [f_X8_following_b25]
  refine Sm.i ?_ ?_
  · exact Sm.s (Ru.r (Ru.l rfl))
  · refine Sm.i ?_ ?_
    · exact Sm.s (Ru.r (Ru.l rfl))
    · refine Sm.b (Sm.gr ghh gi0) ?_
      rintro k4 k4' gk4
      refine Sm.b (Sm.is ghh gk4) ?_
      intro _ _ _
      refine Sm.b (y_X5_get gk4 ghh) ?_
      rintro v5 _ rfl
      refine Sm.i ?_ ?_
      · refine Sm.b (Sm.gr ghh gi0) ?_
        rintro k7 k7' gk7
        refine Sm.b (Sm.is ghh gk7) ?_
        intro _ _ _
        refine Sm.b (y_X5_get gk7 ghh) ?_
        rintro v8 _ rfl
        refine Sm.l ?_
        exact Sm.s (Ru.l (Rp.i rfl rfl))
      · refine Sm.b (Sm.gr ghh gi0) ?_
        rintro k11 k11' gk11
        refine Sm.b (Sm.is ghh gk11) ?_
        intro _ _ _
        refine Sm.b (y_X5_get gk11 ghh) ?_
        rintro v12 _ rfl
        exact Sm.s (Ru.r (Ru.r rfl))
set_option maxHeartbeats 2000000 in
theorem y_X8_following {t t' : Nat} {a1 : Int32} {h h' : tq_H} (gt : (Rr r d) t t') (gh : (Em r d W0 H0 al) h h') : Sm Eq (f_X8_following t a1 h) (f_X8_following t' a1 h') := by
  unfold f_X8_following
  refine Sm.b (Sm.gr gh gt) ?_
  rintro k1 k1' gk1
  refine Sm.b (Sm.is gh gk1) ?_
  intro _ _ _
  refine Sm.b (y_X5_get gk1 gh) ?_
  rintro v2 _ rfl
  refine Sm.i ?_ ?_
  · refine Sm.u (Sm.w (y_X8_following_b25 gt gh) tq_N (Rp.i rfl rfl)) ?_ ?_
    · rintro o14 _ rfl
      exact Sm.s rfl
    · rintro e9 _ rfl
      exact Sm.s rfl
  · refine Sm.b (Sm.gr gh gt) ?_
    rintro k15 k15' gk15
    refine Sm.b (Sm.is gh gk15) ?_
    intro _ _ _
    refine Sm.b (y_X5_get gk15 gh) ?_
    rintro v16 _ rfl
    exact Sm.s rfl
set_option maxHeartbeats 2000000 in
theorem y_X8_layOut_b11 {i0 i0' : Nat} (gi0 : (Rr r d) i0 i0') : ∀ s s', (Rp Eq (Rp Eq (Em r d W0 H0 al))) s s' → Sm (Ru (Rp Eq (Rp Eq (Em r d W0 H0 al))) (Em r d W0 H0 al)) (f_X8_layOut_b11 i0 s) (f_X8_layOut_b11 i0' s') := by
  rintro ⟨y1, ⟨y2, hh⟩⟩ ⟨_, ⟨_, hh'⟩⟩ ⟨rfl, ⟨rfl, ghh⟩⟩
  dsimp only [f_X8_layOut_b11]
  refine Sm.i ?_ ?_
  · exact Sm.s (Ru.r ghh)
  · refine Sm.i ?_ ?_
    · exact Sm.s (Ru.r ghh)
    · refine Sm.b (Sm.gr ghh gi0) ?_
      rintro k4 k4' gk4
      refine Sm.b (Sm.gr ghh gi0) ?_
      rintro k5 k5' gk5
      refine Sm.b (Sm.is ghh gk5) ?_
      intro _ _ _
      refine Sm.b (y_X5_get gk5 ghh) ?_
      rintro v6 _ rfl
      refine Sm.b (Sm.is ghh gk4) ?_
      intro _ _ _
      refine Sm.b (y_X3_spotOf gk4 ghh) ?_
      rintro v8 _ rfl
      refine Sm.b (Sm.gr ghh gi0) ?_
      rintro k10 k10' gk10
      refine Sm.b (Sm.gr ghh gi0) ?_
      rintro k11 k11' gk11
      refine Sm.b (Sm.is ghh gk11) ?_
      intro _ _ _
      refine Sm.b (y_X5_get gk11 ghh) ?_
      rintro v12 _ rfl
      refine Sm.b (Sm.gr ghh gi0) ?_
      rintro k14 k14' gk14
      refine Sm.b (Sm.is ghh gk14) ?_
      intro _ _ _
      refine Sm.b (y_X5_get gk14 ghh) ?_
      rintro v15 _ rfl
      refine Sm.b (Sm.gr ghh gi0) ?_
      rintro k17 k17' gk17
      refine Sm.b (Sm.is ghh gk17) ?_
      intro _ _ _
      refine Sm.b (y_X5_get gk17 ghh) ?_
      rintro v18 _ rfl
      refine Sm.b (Sm.is ghh gk10) ?_
      intro _ _ _
      refine Sm.b (y_X3_add gk10 ghh) ?_
      rintro v20 v20' gv20
      refine Sm.b (Sm.is gv20 gi0) ?_
      intro _ _ _
      refine Sm.b (y_X8_following gi0 gv20) ?_
      rintro v22 _ rfl
      refine Sm.l ?_
      exact Sm.s (Ru.l (Rp.i rfl (Rp.i rfl gv20)))
set_option maxHeartbeats 2000000 in
theorem y_X8_layOut {t t' : Nat} {h h' : tq_H} (gt : (Rr r d) t t') (gh : (Em r d W0 H0 al) h h') : Sm (Em r d W0 H0 al) (f_X8_layOut t h) (f_X8_layOut t' h') := by
  unfold f_X8_layOut
  refine Sm.b (Sm.gr gh gt) ?_
  rintro k1 k1' gk1
  refine Sm.b (Sm.is gh gk1) ?_
  intro _ _ _
  refine Sm.b (y_X3_clear gk1 gh) ?_
  rintro v2 v2' gv2
  refine Sm.b (Sm.w (y_X8_layOut_b11 gt) tq_N (Rp.i rfl (Rp.i rfl gv2))) ?_
  rintro o25 o25' go25
  refine Sm.b (Sm.gr go25 gt) ?_
  rintro k26 k26' gk26
  refine Sm.b (Sm.is go25 gk26) ?_
  intro _ _ _
  refine Sm.b (y_X3_close gk26 go25) ?_
  rintro v27 v27' gv27
  exact Sm.s gv27
set_option maxHeartbeats 2000000 in
theorem y_X8_copy {t t' : Nat} {a1 a1' : Nat} {h h' : tq_H} (gt : (Rr r d) t t') (ga1 : (Rr r d) a1 a1') (gh : (Em r d W0 H0 al) h h') : Sm (Em r d W0 H0 al) (f_X8_copy t a1 h) (f_X8_copy t' a1' h') := by
  unfold f_X8_copy
  refine Sm.b (Sm.is gh gt) ?_
  intro _ _ _
  refine Sm.b (y_X8_copyLoose gt ga1 gh) ?_
  rintro v1 v1' gv1
  refine Sm.b (Sm.gr gv1 gt) ?_
  rintro k3 k3' gk3
  refine Sm.b (Sm.gr gv1 ga1) ?_
  rintro k4 k4' gk4
  refine Sm.b (Sm.is gv1 gk3) ?_
  intro _ _ _
  refine Sm.b (y_X5_copy gk3 gk4 gv1) ?_
  rintro v5 v5' gv5
  refine Sm.b (Sm.gr gv5 gt) ?_
  rintro k7 k7' gk7
  refine Sm.b (Sm.gr gv5 ga1) ?_
  rintro k8 k8' gk8
  refine Sm.b (Sm.is gv5 gk7) ?_
  intro _ _ _
  refine Sm.b (y_X5_copy gk7 gk8 gv5) ?_
  rintro v9 v9' gv9
  refine Sm.b (Sm.gr gv9 gt) ?_
  rintro k11 k11' gk11
  refine Sm.b (Sm.gr gv9 ga1) ?_
  rintro k12 k12' gk12
  refine Sm.b (Sm.is gv9 gk11) ?_
  intro _ _ _
  refine Sm.b (y_X5_copy gk11 gk12 gv9) ?_
  rintro v13 v13' gv13
  refine Sm.b (Sm.gr gv13 gt) ?_
  rintro k15 k15' gk15
  refine Sm.b (Sm.gr gv13 ga1) ?_
  rintro k16 k16' gk16
  refine Sm.b (Sm.is gv13 gk15) ?_
  intro _ _ _
  refine Sm.b (y_X5_copy gk15 gk16 gv13) ?_
  rintro v17 v17' gv17
  refine Sm.b (Sm.is gv17 gt) ?_
  intro _ _ _
  refine Sm.b (y_X8_layOut gt gv17) ?_
  rintro v19 v19' gv19
  exact Sm.s gv19
set_option maxHeartbeats 2000000 in
theorem y_X8_isTangled_b14 {i0 i0' : Nat} {i1 : Int32} {hh hh' : tq_H} (gi0 : (Rr r d) i0 i0') (ghh : (Em r d W0 H0 al) hh hh') : ∀ s s', (Rp Eq Eq) s s' → Sm (Ru (Rp Eq Eq) Eq) (f_X8_isTangled_b14 i0 i1 hh s) (f_X8_isTangled_b14 i0' i1 hh' s') := by
  rintro ⟨y2, y3⟩ ⟨_, _⟩ ⟨rfl, rfl⟩
  dsimp only [f_X8_isTangled_b14]
  refine Sm.i ?_ ?_
  · exact Sm.s (Ru.r rfl)
  · refine Sm.i ?_ ?_
    · exact Sm.s (Ru.r rfl)
    · refine Sm.b (Sm.gr ghh gi0) ?_
      rintro k2 k2' gk2
      refine Sm.b (Sm.is ghh gk2) ?_
      intro _ _ _
      refine Sm.b (y_X5_get gk2 ghh) ?_
      rintro v3 _ rfl
      refine Sm.l ?_
      exact Sm.s (Ru.l (Rp.i rfl rfl))
set_option maxHeartbeats 2000000 in
theorem y_X8_isTangled_b2 {i0 i0' : Nat} {hh hh' : tq_H} (gi0 : (Rr r d) i0 i0') (ghh : (Em r d W0 H0 al) hh hh') : ∀ s s', Eq s s' → Sm (Ru Eq (Ru Eq Eq)) (f_X8_isTangled_b2 i0 hh s) (f_X8_isTangled_b2 i0' hh' s') := by
  rintro y1 _ rfl
  dsimp only [f_X8_isTangled_b2]
  refine Sm.b (Sm.gi ghh gi0) ?_
  rintro x1 _ rfl
  refine Sm.i ?_ ?_
  · exact Sm.s (Ru.r (Ru.l rfl))
  · refine Sm.b (Sm.w (y_X8_isTangled_b14 gi0 ghh) tq_N (Rp.i rfl rfl)) ?_
    rintro o6 _ rfl
    refine Sm.i ?_ ?_
    · refine Sm.l ?_
      exact Sm.s (Ru.l rfl)
    · exact Sm.s (Ru.r (Ru.r rfl))
set_option maxHeartbeats 2000000 in
theorem y_X8_isTangled {t t' : Nat} {h h' : tq_H} (gt : (Rr r d) t t') (gh : (Em r d W0 H0 al) h h') : Sm Eq (f_X8_isTangled t h) (f_X8_isTangled t' h') := by
  unfold f_X8_isTangled
  refine Sm.u (Sm.w (y_X8_isTangled_b2 gt gh) tq_N rfl) ?_ ?_
  · rintro o8 _ rfl
    exact Sm.s rfl
  · rintro e9 _ rfl
    exact Sm.s rfl
set_option maxHeartbeats 2000000 in
theorem y_X8_hasTwins_b25 {i0 i0' : Nat} {i1 : Int32} {i2 : Int64} {hh hh' : tq_H} (gi0 : (Rr r d) i0 i0') (ghh : (Em r d W0 H0 al) hh hh') : ∀ s s', Eq s s' → Sm (Ru Eq (Ru Eq Eq)) (f_X8_hasTwins_b25 i0 i1 i2 hh s) (f_X8_hasTwins_b25 i0' i1 i2 hh' s') := by
  rintro y4 _ rfl
  dsimp only [f_X8_hasTwins_b25]
  refine Sm.i ?_ ?_
  · exact Sm.s (Ru.r (Ru.l rfl))
  · refine Sm.i ?_ ?_
    · exact Sm.s (Ru.r (Ru.l rfl))
    · refine Sm.b (Sm.gr ghh gi0) ?_
      rintro k7 k7' gk7
      refine Sm.b (Sm.is ghh gk7) ?_
      intro _ _ _
      refine Sm.b (y_X3_passing gk7 ghh) ?_
      rintro v8 _ rfl
      refine Sm.b (y_J13_bitCount_95d88 ghh) ?_
      rintro v10 _ rfl
      refine Sm.i ?_ ?_
      · refine Sm.l ?_
        exact Sm.s (Ru.l rfl)
      · exact Sm.s (Ru.r (Ru.r rfl))
set_option maxHeartbeats 2000000 in
theorem y_X8_hasTwins_b2 {i0 i0' : Nat} {hh hh' : tq_H} (gi0 : (Rr r d) i0 i0') (ghh : (Em r d W0 H0 al) hh hh') : ∀ s s', Eq s s' → Sm (Ru Eq (Ru Eq Eq)) (f_X8_hasTwins_b2 i0 hh s) (f_X8_hasTwins_b2 i0' hh' s') := by
  rintro y1 _ rfl
  dsimp only [f_X8_hasTwins_b2]
  refine Sm.b (Sm.gr ghh gi0) ?_
  rintro k1 k1' gk1
  refine Sm.b (Sm.is ghh gk1) ?_
  intro _ _ _
  refine Sm.b (y_X3_count gk1 ghh) ?_
  rintro v2 _ rfl
  refine Sm.i ?_ ?_
  · exact Sm.s (Ru.r (Ru.l rfl))
  · refine Sm.b (Sm.gr ghh gi0) ?_
    rintro k4 k4' gk4
    refine Sm.b (Sm.is ghh gk4) ?_
    intro _ _ _
    refine Sm.b (y_X3_attributesOf gk4 ghh) ?_
    rintro v5 _ rfl
    refine Sm.u (Sm.w (y_X8_hasTwins_b25 gi0 ghh) tq_N rfl) ?_ ?_
    · rintro o12 _ rfl
      refine Sm.l ?_
      exact Sm.s (Ru.l rfl)
    · rintro e9 _ rfl
      exact Sm.s (Ru.r (Ru.r rfl))
set_option maxHeartbeats 2000000 in
theorem y_X8_hasTwins {t t' : Nat} {h h' : tq_H} (gt : (Rr r d) t t') (gh : (Em r d W0 H0 al) h h') : Sm Eq (f_X8_hasTwins t h) (f_X8_hasTwins t' h') := by
  unfold f_X8_hasTwins
  refine Sm.u (Sm.w (y_X8_hasTwins_b2 gt gh) tq_N rfl) ?_ ?_
  · rintro o14 _ rfl
    exact Sm.s rfl
  · rintro e9 _ rfl
    exact Sm.s rfl
set_option maxHeartbeats 2000000 in
theorem y_X8_numberAnew_b4 {i0 i0' : Nat} (gi0 : (Rr r d) i0 i0') : ∀ s s', (Rp Eq (Rp Eq (Em r d W0 H0 al))) s s' → Sm (Ru (Rp Eq (Rp Eq (Em r d W0 H0 al))) (Em r d W0 H0 al)) (f_X8_numberAnew_b4 i0 s) (f_X8_numberAnew_b4 i0' s') := by
  rintro ⟨y1, ⟨y2, hh⟩⟩ ⟨_, ⟨_, hh'⟩⟩ ⟨rfl, ⟨rfl, ghh⟩⟩
  dsimp only [f_X8_numberAnew_b4]
  refine Sm.b (Sm.gr ghh gi0) ?_
  rintro k1 k1' gk1
  refine Sm.b (Sm.is ghh gk1) ?_
  intro _ _ _
  refine Sm.b (y_X3_count gk1 ghh) ?_
  rintro v2 _ rfl
  refine Sm.i ?_ ?_
  · exact Sm.s (Ru.r ghh)
  · refine Sm.b (Sm.gr ghh gi0) ?_
    rintro k4 k4' gk4
    refine Sm.b (Sm.is ghh gk4) ?_
    intro _ _ _
    refine Sm.b (y_X3_solids gk4 ghh) ?_
    rintro v5 _ rfl
    refine Sm.b (y_X0_holds ghh) ?_
    rintro v7 _ rfl
    refine Sm.b (R := (Rp Eq (Em r d W0 H0 al))) ?_ ?_
    · refine Sm.i ?_ ?_
      · exact Sm.s (Rp.i rfl ghh)
      · refine Sm.l ?_
        refine Sm.b (Sm.gr ghh gi0) ?_
        rintro k9 k9' gk9
        refine Sm.b (Sm.gr ghh gi0) ?_
        rintro k10 k10' gk10
        refine Sm.b (Sm.is ghh gk10) ?_
        intro _ _ _
        refine Sm.b (y_X3_nodeAt gk10 ghh) ?_
        rintro v11 _ rfl
        refine Sm.b (Sm.is ghh gk9) ?_
        intro _ _ _
        refine Sm.b (y_X5_set gk9 ghh) ?_
        rintro v13 v13' gv13
        exact Sm.s (Rp.i rfl gv13)
    · rintro ⟨p15a, p15b⟩ ⟨_, p15b'⟩ ⟨rfl, gp15b⟩
      refine Sm.l ?_
      exact Sm.s (Ru.l (Rp.i rfl (Rp.i rfl gp15b)))
set_option maxHeartbeats 2000000 in
theorem y_X8_numberAnew {t t' : Nat} {h h' : tq_H} (gt : (Rr r d) t t') (gh : (Em r d W0 H0 al) h h') : Sm (Em r d W0 H0 al) (f_X8_numberAnew t h) (f_X8_numberAnew t' h') := by
  unfold f_X8_numberAnew
  refine Sm.b (Sm.w (y_X8_numberAnew_b4 gt) tq_N (Rp.i rfl (Rp.i rfl gh))) ?_
  rintro o17 o17' go17
  exact Sm.s go17
set_option maxHeartbeats 2000000 in
theorem y_X8_numberRow_b70 {i0 i0' : Nat} {i1 : Int64} {i4 : Int32} {i5 : Int32} {i6 : Int32} {i7 : Int32} (gi0 : (Rr r d) i0 i0') : ∀ s s', (Rp Eq (Em r d W0 H0 al)) s s' → Sm (Ru (Rp Eq (Em r d W0 H0 al)) (Em r d W0 H0 al)) (f_X8_numberRow_b70 i0 i1 i4 i5 i6 i7 s) (f_X8_numberRow_b70 i0' i1 i4 i5 i6 i7 s') := by
  rintro ⟨y8, hh⟩ ⟨_, hh'⟩ ⟨rfl, ghh⟩
  dsimp only [f_X8_numberRow_b70]
  refine Sm.i ?_ ?_
  · exact Sm.s (Ru.r ghh)
  · refine Sm.b (Sm.gr ghh gi0) ?_
    rintro k15 k15' gk15
    refine Sm.b (Sm.is ghh gk15) ?_
    intro _ _ _
    refine Sm.b (y_X3_nodeOfSet gk15 ghh) ?_
    rintro v16 _ rfl
    refine Sm.b (R := Eq) ?_ ?_
    · refine Sm.i ?_ ?_
      · exact Sm.s rfl
      · refine Sm.b (Sm.r) ?_
        intro _ _ _
        exact Sm.s rfl
    · rintro p19 _ rfl
      refine Sm.b (Sm.gr ghh gi0) ?_
      rintro k20 k20' gk20
      refine Sm.b (Sm.is ghh gk20) ?_
      intro _ _ _
      refine Sm.b (y_X5_set gk20 ghh) ?_
      rintro v21 v21' gv21
      refine Sm.l ?_
      exact Sm.s (Ru.l (Rp.i rfl gv21))
set_option maxHeartbeats 2000000 in
theorem y_X8_numberRow_b70_2 {i0 i0' : Nat} {i1 : Int64} {i4 : Int32} {i5 : Int32} {i6 : Int32} {i7 : Int32} (gi0 : (Rr r d) i0 i0') : ∀ s s', (Rp Eq (Em r d W0 H0 al)) s s' → Sm (Ru (Rp Eq (Em r d W0 H0 al)) (Em r d W0 H0 al)) (f_X8_numberRow_b70_2 i0 i1 i4 i5 i6 i7 s) (f_X8_numberRow_b70_2 i0' i1 i4 i5 i6 i7 s') := by
  rintro ⟨y8, hh⟩ ⟨_, hh'⟩ ⟨rfl, ghh⟩
  dsimp only [f_X8_numberRow_b70_2]
  refine Sm.i ?_ ?_
  · exact Sm.s (Ru.r ghh)
  · refine Sm.b (Sm.gr ghh gi0) ?_
    rintro k25 k25' gk25
    refine Sm.b (Sm.is ghh gk25) ?_
    intro _ _ _
    refine Sm.b (y_X3_nodeOfSet gk25 ghh) ?_
    rintro v26 _ rfl
    refine Sm.b (R := Eq) ?_ ?_
    · refine Sm.i ?_ ?_
      · exact Sm.s rfl
      · refine Sm.b (Sm.r) ?_
        intro _ _ _
        exact Sm.s rfl
    · rintro p29 _ rfl
      refine Sm.b (Sm.gr ghh gi0) ?_
      rintro k30 k30' gk30
      refine Sm.b (Sm.is ghh gk30) ?_
      intro _ _ _
      refine Sm.b (y_X5_set gk30 ghh) ?_
      rintro v31 v31' gv31
      refine Sm.l ?_
      exact Sm.s (Ru.l (Rp.i rfl gv31))
set_option maxHeartbeats 2000000 in
theorem y_X8_numberRow {t t' : Nat} {a1 : Int64} {a3 : Int32} {a4 : Int32} {h h' : tq_H} (gt : (Rr r d) t t') (gh : (Em r d W0 H0 al) h h') : Sm (Rp Eq (Em r d W0 H0 al)) (f_X8_numberRow t a1 a3 a4 h) (f_X8_numberRow t' a1 a3 a4 h') := by
  unfold f_X8_numberRow
  refine Sm.b (y_J13_bitCount_95d88 gh) ?_
  rintro v1 _ rfl
  refine Sm.i ?_ ?_
  · refine Sm.b (Sm.gr gh gt) ?_
    rintro k2 k2' gk2
    refine Sm.b (Sm.gr gh gt) ?_
    rintro k3 k3' gk3
    refine Sm.b (Sm.is gh gk3) ?_
    intro _ _ _
    refine Sm.b (y_X3_nodeAt gk3 gh) ?_
    rintro v4 _ rfl
    refine Sm.b (Sm.is gh gk2) ?_
    intro _ _ _
    refine Sm.b (y_X5_get gk2 gh) ?_
    rintro v6 _ rfl
    refine Sm.b (Sm.gr gh gt) ?_
    rintro k8 k8' gk8
    refine Sm.b (Sm.gr gh gt) ?_
    rintro k9 k9' gk9
    refine Sm.b (Sm.is gh gk9) ?_
    intro _ _ _
    refine Sm.b (y_X3_nodeAt gk9 gh) ?_
    rintro v10 _ rfl
    refine Sm.b (Sm.is gh gk8) ?_
    intro _ _ _
    refine Sm.b (y_X5_get gk8 gh) ?_
    rintro v12 _ rfl
    refine Sm.l ?_
    refine Sm.i ?_ ?_
    · refine Sm.b (Sm.w (y_X8_numberRow_b70 gt) tq_N (Rp.i rfl gh)) ?_
      rintro o24 o24' go24
      exact Sm.s (Rp.i rfl go24)
    · refine Sm.i ?_ ?_
      · refine Sm.b (Sm.w (y_X8_numberRow_b70_2 gt) tq_N (Rp.i rfl gh)) ?_
        rintro o34 o34' go34
        exact Sm.s (Rp.i rfl go34)
      · exact Sm.s (Rp.i rfl gh)
  · exact Sm.s (Rp.i rfl gh)
set_option maxHeartbeats 2000000 in
theorem y_X8_numberFresh_b30 {i0 i0' : Nat} {i3 : Int64} (gi0 : (Rr r d) i0 i0') : ∀ s s', (Rp Eq (Rp Eq (Em r d W0 H0 al))) s s' → Sm (Ru (Rp Eq (Rp Eq (Em r d W0 H0 al))) (Ru (Rp Eq (Em r d W0 H0 al)) (Rp Eq (Em r d W0 H0 al)))) (f_X8_numberFresh_b30 i0 i3 s) (f_X8_numberFresh_b30 i0' i3 s') := by
  rintro ⟨y5, ⟨y6, hh⟩⟩ ⟨_, ⟨_, hh'⟩⟩ ⟨rfl, ⟨rfl, ghh⟩⟩
  dsimp only [f_X8_numberFresh_b30]
  refine Sm.b (Sm.gr ghh gi0) ?_
  rintro k11 k11' gk11
  refine Sm.b (Sm.is ghh gk11) ?_
  intro _ _ _
  refine Sm.b (y_X3_count gk11 ghh) ?_
  rintro v12 _ rfl
  refine Sm.i ?_ ?_
  · exact Sm.s (Ru.r (Ru.l (Rp.i rfl ghh)))
  · refine Sm.b (Sm.gr ghh gi0) ?_
    rintro k14 k14' gk14
    refine Sm.b (Sm.is ghh gk14) ?_
    intro _ _ _
    refine Sm.b (y_X3_solids gk14 ghh) ?_
    rintro v15 _ rfl
    refine Sm.b (y_X0_holds ghh) ?_
    rintro v17 _ rfl
    refine Sm.i ?_ ?_
    · refine Sm.l ?_
      exact Sm.s (Ru.l (Rp.i rfl (Rp.i rfl ghh)))
    · refine Sm.b (y_X0_below ghh) ?_
      rintro v19 _ rfl
      refine Sm.b (y_X0_below ghh) ?_
      rintro v20 _ rfl
      refine Sm.b (Sm.is ghh gi0) ?_
      intro _ _ _
      refine Sm.b (y_X8_numberRow gi0 ghh) ?_
      rintro ⟨v21a, v21b⟩ ⟨_, v21b'⟩ ⟨rfl, gv21b⟩
      refine Sm.i ?_ ?_
      · exact Sm.s (Ru.r (Ru.r (Rp.i rfl gv21b)))
      · refine Sm.l ?_
        exact Sm.s (Ru.l (Rp.i rfl (Rp.i rfl gv21b)))
set_option maxHeartbeats 2000000 in
theorem y_X8_numberFresh {t t' : Nat} {a1 : Int64} {h h' : tq_H} (gt : (Rr r d) t t') (gh : (Em r d W0 H0 al) h h') : Sm (Rp Eq (Em r d W0 H0 al)) (f_X8_numberFresh t a1 h) (f_X8_numberFresh t' a1 h') := by
  unfold f_X8_numberFresh
  refine Sm.b (Sm.gr gh gt) ?_
  rintro k1 k1' gk1
  refine Sm.b (Sm.gr gh gt) ?_
  rintro k2 k2' gk2
  refine Sm.b (Sm.is gh gk2) ?_
  intro _ _ _
  refine Sm.b (y_X3_spotsOf gk2 gh) ?_
  rintro v3 _ rfl
  refine Sm.b (Sm.is gh gk1) ?_
  intro _ _ _
  refine Sm.b (y_X3_spread gk1 gh) ?_
  rintro v5 _ rfl
  refine Sm.b (Sm.gr gh gt) ?_
  rintro k7 k7' gk7
  refine Sm.b (Sm.is gh gk7) ?_
  intro _ _ _
  refine Sm.b (y_X3_solids gk7 gh) ?_
  rintro v8 _ rfl
  refine Sm.l ?_
  refine Sm.u (Sm.w (y_X8_numberFresh_b30 gt) tq_N (Rp.i rfl (Rp.i rfl gh))) ?_ ?_
  · rintro ⟨o24a, o24b⟩ ⟨_, o24b'⟩ ⟨rfl, go24b⟩
    refine Sm.b (y_X0_below go24b) ?_
    rintro v25 _ rfl
    refine Sm.b (Sm.is go24b gt) ?_
    intro _ _ _
    refine Sm.b (y_X8_numberRow gt go24b) ?_
    rintro ⟨v26a, v26b⟩ ⟨_, v26b'⟩ ⟨rfl, gv26b⟩
    refine Sm.b (Sm.r) ?_
    rintro z28 _ rfl
    exact Sm.s (Rp.i rfl gv26b)
  · rintro ⟨e9a, e9b⟩ ⟨_, e9b'⟩ ⟨rfl, ge9b⟩
    exact Sm.s (Rp.i rfl ge9b)
set_option maxHeartbeats 2000000 in
theorem y_X8_textsWorth_b5 {i0 i0' : Nat} {i1 : Int32} {hh hh' : tq_H} (gi0 : (Rr r d) i0 i0') (ghh : (Em r d W0 H0 al) hh hh') : ∀ s s', (Rp Eq Eq) s s' → Sm (Ru (Rp Eq Eq) Eq) (f_X8_textsWorth_b5 i0 i1 hh s) (f_X8_textsWorth_b5 i0' i1 hh' s') := by
  rintro ⟨y2, y4⟩ ⟨_, _⟩ ⟨rfl, rfl⟩
  dsimp only [f_X8_textsWorth_b5]
  refine Sm.b (Sm.gr ghh gi0) ?_
  rintro k1 k1' gk1
  refine Sm.b (Sm.is ghh gk1) ?_
  intro _ _ _
  refine Sm.b (y_X3_count gk1 ghh) ?_
  rintro v2 _ rfl
  refine Sm.i ?_ ?_
  · exact Sm.s (Ru.r rfl)
  · refine Sm.b (Sm.gr ghh gi0) ?_
    rintro k4 k4' gk4
    refine Sm.b (Sm.is ghh gk4) ?_
    intro _ _ _
    refine Sm.b (y_X3_passing gk4 ghh) ?_
    rintro v5 _ rfl
    refine Sm.b (y_X0_holds ghh) ?_
    rintro v7 _ rfl
    refine Sm.b (R := Eq) ?_ ?_
    · refine Sm.i ?_ ?_
      · exact Sm.s rfl
      · refine Sm.b (Sm.gr ghh gi0) ?_
        rintro k8 k8' gk8
        refine Sm.b (Sm.gr ghh gi0) ?_
        rintro k9 k9' gk9
        refine Sm.b (Sm.is ghh gk9) ?_
        intro _ _ _
        refine Sm.b (y_X3_nodeAt gk9 ghh) ?_
        rintro v10 _ rfl
        refine Sm.b (Sm.is ghh gk8) ?_
        intro _ _ _
        refine Sm.b (y_X5_get gk8 ghh) ?_
        rintro v12 _ rfl
        refine Sm.i ?_ ?_
        · refine Sm.b (y_X0_one ghh) ?_
          rintro v14 _ rfl
          refine Sm.l ?_
          exact Sm.s rfl
        · exact Sm.s rfl
    · rintro p16 _ rfl
      refine Sm.l ?_
      exact Sm.s (Ru.l (Rp.i rfl rfl))
set_option maxHeartbeats 2000000 in
theorem y_X8_textsWorth {t t' : Nat} {a1 : Int32} {h h' : tq_H} (gt : (Rr r d) t t') (gh : (Em r d W0 H0 al) h h') : Sm Eq (f_X8_textsWorth t a1 h) (f_X8_textsWorth t' a1 h') := by
  unfold f_X8_textsWorth
  refine Sm.b (Sm.w (y_X8_textsWorth_b5 gt gh) tq_N (Rp.i rfl rfl)) ?_
  rintro o18 _ rfl
  exact Sm.s rfl
set_option maxHeartbeats 2000000 in
theorem y_X8_isRanked {t t' : Nat} {a1 : Int64} {a3 : Int32} {h h' : tq_H} (gt : (Rr r d) t t') (gh : (Em r d W0 H0 al) h h') : Sm Eq (f_X8_isRanked t a1 a3 h) (f_X8_isRanked t' a1 a3 h') := by
  unfold f_X8_isRanked
  refine Sm.b (Sm.gr gh gt) ?_
  rintro k1 k1' gk1
  refine Sm.b (Sm.is gh gk1) ?_
  intro _ _ _
  refine Sm.b (y_X3_elements gk1 gh) ?_
  rintro v2 _ rfl
  refine Sm.b (y_X0_holds gh) ?_
  rintro v4 _ rfl
  refine Sm.b (R := Eq) ?_ ?_
  · refine Sm.i ?_ ?_
    · exact Sm.s rfl
    · refine Sm.b (Sm.gr gh gt) ?_
      rintro k5 k5' gk5
      refine Sm.b (Sm.is gh gk5) ?_
      intro _ _ _
      refine Sm.b (y_X3_below gk5 gh) ?_
      rintro v6 _ rfl
      refine Sm.i ?_ ?_
      · exact Sm.s rfl
      · exact Sm.s rfl
  · rintro p8 _ rfl
    refine Sm.b (Sm.r) ?_
    rintro z9 _ rfl
    exact Sm.s rfl
set_option maxHeartbeats 2000000 in
theorem y_X8_lead {t t' : Nat} {a1 : Int64} {a3 : Int32} {a4 : Int32} {h h' : tq_H} (gt : (Rr r d) t t') (gh : (Em r d W0 H0 al) h h') : Sm Eq (f_X8_lead t a1 a3 a4 h) (f_X8_lead t' a1 a3 a4 h') := by
  unfold f_X8_lead
  refine Sm.b (Sm.gr gh gt) ?_
  rintro k1 k1' gk1
  refine Sm.b (Sm.is gh gk1) ?_
  intro _ _ _
  refine Sm.b (y_X3_passing gk1 gh) ?_
  rintro v2 _ rfl
  refine Sm.b (Sm.gr gh gt) ?_
  rintro k4 k4' gk4
  refine Sm.b (Sm.is gh gk4) ?_
  intro _ _ _
  refine Sm.b (y_X3_below gk4 gh) ?_
  rintro v5 _ rfl
  refine Sm.b (Sm.gr gh gt) ?_
  rintro k7 k7' gk7
  refine Sm.b (Sm.is gh gk7) ?_
  intro _ _ _
  refine Sm.b (y_X3_below gk7 gh) ?_
  rintro v8 _ rfl
  refine Sm.b (y_J13_bitCount_95d88 gh) ?_
  rintro v10 _ rfl
  refine Sm.b (y_J13_bitCount_95d88 gh) ?_
  rintro v11 _ rfl
  refine Sm.b (y_J13_bitCount_95d88 gh) ?_
  rintro v12 _ rfl
  refine Sm.b (y_J13_bitCount_95d88 gh) ?_
  rintro v13 _ rfl
  exact Sm.s rfl
set_option maxHeartbeats 2000000 in
theorem y_X8_countAhead_b6 {i0 i0' : Nat} {i1 : Int64} {i3 : Int32} {hh hh' : tq_H} (gi0 : (Rr r d) i0 i0') (ghh : (Em r d W0 H0 al) hh hh') : ∀ s s', (Rp Eq Eq) s s' → Sm (Ru (Rp Eq Eq) Eq) (f_X8_countAhead_b6 i0 i1 i3 hh s) (f_X8_countAhead_b6 i0' i1 i3 hh' s') := by
  rintro ⟨y4, y5⟩ ⟨_, _⟩ ⟨rfl, rfl⟩
  dsimp only [f_X8_countAhead_b6]
  refine Sm.b (Sm.gr ghh gi0) ?_
  rintro k1 k1' gk1
  refine Sm.b (Sm.is ghh gk1) ?_
  intro _ _ _
  refine Sm.b (y_X3_count gk1 ghh) ?_
  rintro v2 _ rfl
  refine Sm.i ?_ ?_
  · exact Sm.s (Ru.r rfl)
  · refine Sm.b (Sm.is ghh gi0) ?_
    intro _ _ _
    refine Sm.b (y_X8_isRanked gi0 ghh) ?_
    rintro v4 _ rfl
    refine Sm.b (R := Eq) ?_ ?_
    · refine Sm.i ?_ ?_
      · exact Sm.s rfl
      · refine Sm.b (Sm.is ghh gi0) ?_
        intro _ _ _
        refine Sm.b (y_X8_lead gi0 ghh) ?_
        rintro v6 _ rfl
        refine Sm.l ?_
        refine Sm.l ?_
        exact Sm.s rfl
    · rintro p10 _ rfl
      refine Sm.l ?_
      exact Sm.s (Ru.l (Rp.i rfl rfl))
set_option maxHeartbeats 2000000 in
theorem y_X8_countAhead {t t' : Nat} {a1 : Int64} {a3 : Int32} {h h' : tq_H} (gt : (Rr r d) t t') (gh : (Em r d W0 H0 al) h h') : Sm Eq (f_X8_countAhead t a1 a3 h) (f_X8_countAhead t' a1 a3 h') := by
  unfold f_X8_countAhead
  refine Sm.b (Sm.w (y_X8_countAhead_b6 gt gh) tq_N (Rp.i rfl rfl)) ?_
  rintro o12 _ rfl
  exact Sm.s rfl
set_option maxHeartbeats 2000000 in
theorem y_X8_rankedSpot_b3 {i0 i0' : Nat} {i1 : Int64} {i3 : Int32} {hh hh' : tq_H} (gi0 : (Rr r d) i0 i0') (ghh : (Em r d W0 H0 al) hh hh') : ∀ s s', Eq s s' → Sm (Ru Eq (Ru Eq Eq)) (f_X8_rankedSpot_b3 i0 i1 i3 hh s) (f_X8_rankedSpot_b3 i0' i1 i3 hh' s') := by
  rintro y4 _ rfl
  dsimp only [f_X8_rankedSpot_b3]
  refine Sm.b (Sm.gr ghh gi0) ?_
  rintro k1 k1' gk1
  refine Sm.b (Sm.is ghh gk1) ?_
  intro _ _ _
  refine Sm.b (y_X3_count gk1 ghh) ?_
  rintro v2 _ rfl
  refine Sm.i ?_ ?_
  · exact Sm.s (Ru.r (Ru.l rfl))
  · refine Sm.b (Sm.is ghh gi0) ?_
    intro _ _ _
    refine Sm.b (y_X8_isRanked gi0 ghh) ?_
    rintro v4 _ rfl
    refine Sm.i ?_ ?_
    · refine Sm.l ?_
      exact Sm.s (Ru.l rfl)
    · refine Sm.b (Sm.is ghh gi0) ?_
      intro _ _ _
      refine Sm.b (y_X8_countAhead gi0 ghh) ?_
      rintro v7 _ rfl
      refine Sm.i ?_ ?_
      · exact Sm.s (Ru.r (Ru.r rfl))
      · refine Sm.l ?_
        exact Sm.s (Ru.l rfl)
set_option maxHeartbeats 2000000 in
theorem y_X8_rankedSpot {t t' : Nat} {a1 : Int64} {a3 : Int32} {h h' : tq_H} (gt : (Rr r d) t t') (gh : (Em r d W0 H0 al) h h') : Sm Eq (f_X8_rankedSpot t a1 a3 h) (f_X8_rankedSpot t' a1 a3 h') := by
  unfold f_X8_rankedSpot
  refine Sm.u (Sm.w (y_X8_rankedSpot_b3 gt gh) tq_N rfl) ?_ ?_
  · rintro o10 _ rfl
    exact Sm.s rfl
  · rintro e9 _ rfl
    exact Sm.s rfl
set_option maxHeartbeats 2000000 in
theorem y_X8_differs {t t' : Nat} {a1 a1' : Nat} {a2 : Int32} {h h' : tq_H} (gt : (Rr r d) t t') (ga1 : (Rr r d) a1 a1') (gh : (Em r d W0 H0 al) h h') : Sm Eq (f_X8_differs t a1 a2 h) (f_X8_differs t' a1' a2 h') := by
  unfold f_X8_differs
  refine Sm.b (Sm.gr gh gt) ?_
  rintro k1 k1' gk1
  refine Sm.b (Sm.is gh gk1) ?_
  intro _ _ _
  refine Sm.b (y_X3_holds gk1 gh) ?_
  rintro v2 _ rfl
  refine Sm.b (Sm.gr gh ga1) ?_
  rintro k4 k4' gk4
  refine Sm.b (Sm.is gh gk4) ?_
  intro _ _ _
  refine Sm.b (y_X3_holds gk4 gh) ?_
  rintro v5 _ rfl
  refine Sm.i ?_ ?_
  · refine Sm.b (Sm.gr gh gt) ?_
    rintro k7 k7' gk7
    refine Sm.b (Sm.is gh gk7) ?_
    intro _ _ _
    refine Sm.b (y_X3_holds gk7 gh) ?_
    rintro v8 _ rfl
    refine Sm.i ?_ ?_
    · exact Sm.s rfl
    · refine Sm.b (Sm.gr gh gt) ?_
      rintro k10 k10' gk10
      refine Sm.b (Sm.is gh gk10) ?_
      intro _ _ _
      refine Sm.b (y_X5_get gk10 gh) ?_
      rintro v11 _ rfl
      refine Sm.b (Sm.gr gh ga1) ?_
      rintro k13 k13' gk13
      refine Sm.b (Sm.is gh gk13) ?_
      intro _ _ _
      refine Sm.b (y_X5_get gk13 gh) ?_
      rintro v14 _ rfl
      refine Sm.b (R := Eq) ?_ ?_
      · refine Sm.i ?_ ?_
        · refine Sm.b (Sm.gr gh gt) ?_
          rintro k16 k16' gk16
          refine Sm.b (Sm.is gh gk16) ?_
          intro _ _ _
          refine Sm.b (y_X5_get gk16 gh) ?_
          rintro v17 _ rfl
          refine Sm.b (Sm.gr gh ga1) ?_
          rintro k19 k19' gk19
          refine Sm.b (Sm.is gh gk19) ?_
          intro _ _ _
          refine Sm.b (y_X5_get gk19 gh) ?_
          rintro v20 _ rfl
          refine Sm.i ?_ ?_
          · refine Sm.b (Sm.gr gh gt) ?_
            rintro k22 k22' gk22
            refine Sm.b (Sm.is gh gk22) ?_
            intro _ _ _
            refine Sm.b (y_X5_get gk22 gh) ?_
            rintro v23 _ rfl
            refine Sm.b (Sm.gr gh ga1) ?_
            rintro k25 k25' gk25
            refine Sm.b (Sm.is gh gk25) ?_
            intro _ _ _
            refine Sm.b (y_X5_get gk25 gh) ?_
            rintro v26 _ rfl
            refine Sm.i ?_ ?_
            · refine Sm.b (Sm.gr gh gt) ?_
              rintro k28 k28' gk28
              refine Sm.b (Sm.is gh gk28) ?_
              intro _ _ _
              refine Sm.b (y_X5_get gk28 gh) ?_
              rintro v29 _ rfl
              refine Sm.b (Sm.gr gh ga1) ?_
              rintro k31 k31' gk31
              refine Sm.b (Sm.is gh gk31) ?_
              intro _ _ _
              refine Sm.b (y_X5_get gk31 gh) ?_
              rintro v32 _ rfl
              refine Sm.i ?_ ?_
              · exact Sm.s rfl
              · exact Sm.s rfl
            · exact Sm.s rfl
          · exact Sm.s rfl
        · exact Sm.s rfl
      · rintro p34 _ rfl
        refine Sm.b (Sm.r) ?_
        rintro z35 _ rfl
        exact Sm.s rfl
  · exact Sm.s rfl
set_option maxHeartbeats 2000000 in
theorem y_X9_init {t t' : Nat} {h h' : tq_H} (ha : al) (gt : (Rr r d) t t') (gh : (Em r d W0 H0 al) h h') : Sm (Em r d W0 H0 al) (f_X9_init t h) (f_X9_init t' h') := by
  unfold f_X9_init
  refine Sm.n ha gh (okO_l rfl) (fun w1 w1' gw1 => ?_)
  refine Sm.b (y_X5_init ha (gh.nr ha) gw1) ?_
  rintro v2 v2' gv2
  refine Sm.b (Sm.pf gv2 gt (okV_r (gh.nr ha))) ?_
  rintro w3 w3' gw3
  refine Sm.n ha gw3 (okO_l rfl) (fun w4 w4' gw4 => ?_)
  refine Sm.b (y_X5_init ha (gw3.nr ha) gw4) ?_
  rintro v5 v5' gv5
  refine Sm.b (Sm.pf gv5 gt (okV_r (gw3.nr ha))) ?_
  rintro w6 w6' gw6
  refine Sm.n ha gw6 (okO_l rfl) (fun w7 w7' gw7 => ?_)
  refine Sm.b (y_X5_init ha (gw6.nr ha) gw7) ?_
  rintro v8 v8' gv8
  refine Sm.b (Sm.pf gv8 gt (okV_r (gw6.nr ha))) ?_
  rintro w9 w9' gw9
  refine Sm.n ha gw9 (okO_l rfl) (fun w10 w10' gw10 => ?_)
  refine Sm.b (y_X5_init ha (gw9.nr ha) gw10) ?_
  rintro v11 v11' gv11
  refine Sm.b (Sm.pf gv11 gt (okV_r (gw9.nr ha))) ?_
  rintro w12 w12' gw12
  refine Sm.n ha gw12 (okO_l rfl) (fun w13 w13' gw13 => ?_)
  refine Sm.b (y_X5_init ha (gw12.nr ha) gw13) ?_
  rintro v14 v14' gv14
  refine Sm.b (Sm.pf gv14 gt (okV_r (gw12.nr ha))) ?_
  rintro w15 w15' gw15
  refine Sm.n ha gw15 (okO_l rfl) (fun w16 w16' gw16 => ?_)
  refine Sm.b (y_X5_init ha (gw15.nr ha) gw16) ?_
  rintro v17 v17' gv17
  refine Sm.b (Sm.pf gv17 gt (okV_r (gw15.nr ha))) ?_
  rintro w18 w18' gw18
  refine Sm.n ha gw18 (okO_l rfl) (fun w19 w19' gw19 => ?_)
  refine Sm.b (y_X5_init ha (gw18.nr ha) gw19) ?_
  rintro v20 v20' gv20
  refine Sm.b (Sm.pf gv20 gt (okV_r (gw18.nr ha))) ?_
  rintro w21 w21' gw21
  refine Sm.n ha gw21 (okO_l rfl) (fun w22 w22' gw22 => ?_)
  refine Sm.b (y_X5_init ha (gw21.nr ha) gw22) ?_
  rintro v23 v23' gv23
  refine Sm.b (Sm.pf gv23 gt (okV_r (gw21.nr ha))) ?_
  rintro w24 w24' gw24
  refine Sm.b (Sm.pf gw24 gt (okV_l _)) ?_
  rintro w25 w25' gw25
  refine Sm.b (Sm.pf gw25 gt (okV_l _)) ?_
  rintro w26 w26' gw26
  refine Sm.b (Sm.pf gw26 gt (okV_l _)) ?_
  rintro w27 w27' gw27
  refine Sm.b (Sm.pf gw27 gt (okV_i _)) ?_
  rintro w28 w28' gw28
  exact Sm.s gw28
set_option maxHeartbeats 2000000 in
theorem y_X9_count {t t' : Nat} {h h' : tq_H} (gt : (Rr r d) t t') (gh : (Em r d W0 H0 al) h h') : Sm Eq (f_X9_count t h) (f_X9_count t' h') := by
  unfold f_X9_count
  refine Sm.b (Sm.gi gh gt) ?_
  rintro x1 _ rfl
  exact Sm.s rfl
set_option maxHeartbeats 2000000 in
theorem y_X9_fresh {t t' : Nat} {h h' : tq_H} (gt : (Rr r d) t t') (gh : (Em r d W0 H0 al) h h') : Sm Eq (f_X9_fresh t h) (f_X9_fresh t' h') := by
  unfold f_X9_fresh
  refine Sm.b (Sm.gl gh gt) ?_
  rintro x1 _ rfl
  exact Sm.s rfl
set_option maxHeartbeats 2000000 in
theorem y_X9_empty {t t' : Nat} {h h' : tq_H} (gt : (Rr r d) t t') (gh : (Em r d W0 H0 al) h h') : Sm (Rp Eq (Em r d W0 H0 al)) (f_X9_empty t h) (f_X9_empty t' h') := by
  unfold f_X9_empty
  refine Sm.b (Sm.gi gh gt) ?_
  rintro x1 _ rfl
  refine Sm.b (Sm.pf gh gt (okV_i _)) ?_
  rintro w2 w2' gw2
  exact Sm.s (Rp.i rfl gw2)
set_option maxHeartbeats 2000000 in
theorem y_X9_add {t t' : Nat} {a1 : Int32} {a2 : Int32} {a3 : Int32} {a4 : Int32} {h h' : tq_H} (gt : (Rr r d) t t') (gh : (Em r d W0 H0 al) h h') : Sm (Rp Eq (Em r d W0 H0 al)) (f_X9_add t a1 a2 a3 a4 h) (f_X9_add t' a1 a2 a3 a4 h') := by
  unfold f_X9_add
  refine Sm.b (Sm.gr gh gt) ?_
  rintro k1 k1' gk1
  refine Sm.b (Sm.gi gh gt) ?_
  rintro x2 _ rfl
  refine Sm.b (Sm.is gh gk1) ?_
  intro _ _ _
  refine Sm.b (y_X5_set gk1 gh) ?_
  rintro v3 v3' gv3
  refine Sm.b (Sm.gr gv3 gt) ?_
  rintro k5 k5' gk5
  refine Sm.b (Sm.gi gv3 gt) ?_
  rintro x6 _ rfl
  refine Sm.b (Sm.is gv3 gk5) ?_
  intro _ _ _
  refine Sm.b (y_X5_set gk5 gv3) ?_
  rintro v7 v7' gv7
  refine Sm.b (Sm.gr gv7 gt) ?_
  rintro k9 k9' gk9
  refine Sm.b (Sm.gi gv7 gt) ?_
  rintro x10 _ rfl
  refine Sm.b (Sm.is gv7 gk9) ?_
  intro _ _ _
  refine Sm.b (y_X5_set gk9 gv7) ?_
  rintro v11 v11' gv11
  refine Sm.b (Sm.gr gv11 gt) ?_
  rintro k13 k13' gk13
  refine Sm.b (Sm.gi gv11 gt) ?_
  rintro x14 _ rfl
  refine Sm.b (Sm.is gv11 gk13) ?_
  intro _ _ _
  refine Sm.b (y_X5_set gk13 gv11) ?_
  rintro v15 v15' gv15
  refine Sm.b (Sm.gi gv15 gt) ?_
  rintro x17 _ rfl
  refine Sm.b (Sm.pf gv15 gt (okV_i _)) ?_
  rintro w18 w18' gw18
  refine Sm.b (Sm.gi gw18 gt) ?_
  rintro x19 _ rfl
  exact Sm.s (Rp.i rfl gw18)
set_option maxHeartbeats 2000000 in
theorem y_X9_addInsert {t t' : Nat} {a1 : Int32} {a2 : Int32} {a3 : Int32} {a4 : Int32} {a5 : Int32} {h h' : tq_H} (gt : (Rr r d) t t') (gh : (Em r d W0 H0 al) h h') : Sm (Rp Eq (Em r d W0 H0 al)) (f_X9_addInsert t a1 a2 a3 a4 a5 h) (f_X9_addInsert t' a1 a2 a3 a4 a5 h') := by
  unfold f_X9_addInsert
  refine Sm.b (Sm.gr gh gt) ?_
  rintro k1 k1' gk1
  refine Sm.b (Sm.gi gh gt) ?_
  rintro x2 _ rfl
  refine Sm.b (Sm.is gh gk1) ?_
  intro _ _ _
  refine Sm.b (y_X5_set gk1 gh) ?_
  rintro v3 v3' gv3
  refine Sm.b (Sm.gr gv3 gt) ?_
  rintro k5 k5' gk5
  refine Sm.b (Sm.gi gv3 gt) ?_
  rintro x6 _ rfl
  refine Sm.b (Sm.is gv3 gk5) ?_
  intro _ _ _
  refine Sm.b (y_X5_set gk5 gv3) ?_
  rintro v7 v7' gv7
  refine Sm.b (Sm.gr gv7 gt) ?_
  rintro k9 k9' gk9
  refine Sm.b (Sm.gi gv7 gt) ?_
  rintro x10 _ rfl
  refine Sm.b (Sm.is gv7 gk9) ?_
  intro _ _ _
  refine Sm.b (y_X5_set gk9 gv7) ?_
  rintro v11 v11' gv11
  refine Sm.b (Sm.is gv11 gt) ?_
  intro _ _ _
  refine Sm.b (y_X9_add gt gv11) ?_
  rintro ⟨v13a, v13b⟩ ⟨_, v13b'⟩ ⟨rfl, gv13b⟩
  exact Sm.s (Rp.i rfl gv13b)
set_option maxHeartbeats 2000000 in
theorem y_X9_addMove {t t' : Nat} {a1 : Int32} {a2 : Int32} {a3 : Int32} {h h' : tq_H} (gt : (Rr r d) t t') (gh : (Em r d W0 H0 al) h h') : Sm (Rp Eq (Em r d W0 H0 al)) (f_X9_addMove t a1 a2 a3 h) (f_X9_addMove t' a1 a2 a3 h') := by
  unfold f_X9_addMove
  refine Sm.b (Sm.is gh gt) ?_
  intro _ _ _
  refine Sm.b (y_X9_add gt gh) ?_
  rintro ⟨v1a, v1b⟩ ⟨_, v1b'⟩ ⟨rfl, gv1b⟩
  exact Sm.s (Rp.i rfl gv1b)
set_option maxHeartbeats 2000000 in
theorem y_X9_addChange {t t' : Nat} {a1 : Int32} {a2 : Int32} {a3 : Int32} {h h' : tq_H} (gt : (Rr r d) t t') (gh : (Em r d W0 H0 al) h h') : Sm (Rp Eq (Em r d W0 H0 al)) (f_X9_addChange t a1 a2 a3 h) (f_X9_addChange t' a1 a2 a3 h') := by
  unfold f_X9_addChange
  refine Sm.b (Sm.gr gh gt) ?_
  rintro k1 k1' gk1
  refine Sm.b (Sm.gi gh gt) ?_
  rintro x2 _ rfl
  refine Sm.b (Sm.is gh gk1) ?_
  intro _ _ _
  refine Sm.b (y_X5_set gk1 gh) ?_
  rintro v3 v3' gv3
  refine Sm.b (Sm.is gv3 gt) ?_
  intro _ _ _
  refine Sm.b (y_X9_add gt gv3) ?_
  rintro ⟨v5a, v5b⟩ ⟨_, v5b'⟩ ⟨rfl, gv5b⟩
  exact Sm.s (Rp.i rfl gv5b)
set_option maxHeartbeats 2000000 in
theorem y_X9_isStale {t t' : Nat} {a1 a1' : Nat} {a2 : Int32} {h h' : tq_H} (gt : (Rr r d) t t') (ga1 : (Rr r d) a1 a1') (gh : (Em r d W0 H0 al) h h') : Sm Eq (f_X9_isStale t a1 a2 h) (f_X9_isStale t' a1' a2 h') := by
  unfold f_X9_isStale
  refine Sm.b (Sm.gr gh gt) ?_
  rintro k1 k1' gk1
  refine Sm.b (Sm.is gh gk1) ?_
  intro _ _ _
  refine Sm.b (y_X5_get gk1 gh) ?_
  rintro v2 _ rfl
  refine Sm.b (Sm.gr gh gt) ?_
  rintro k4 k4' gk4
  refine Sm.b (Sm.is gh gk4) ?_
  intro _ _ _
  refine Sm.b (y_X5_get gk4 gh) ?_
  rintro v5 _ rfl
  refine Sm.i ?_ ?_
  · refine Sm.i ?_ ?_
    · exact Sm.s rfl
    · refine Sm.b (Sm.gr gh ga1) ?_
      rintro k7 k7' gk7
      refine Sm.b (Sm.is gh gk7) ?_
      intro _ _ _
      refine Sm.b (y_X3_holds gk7 gh) ?_
      rintro v8 _ rfl
      refine Sm.b (R := Eq) ?_ ?_
      · refine Sm.i ?_ ?_
        · exact Sm.s rfl
        · refine Sm.b (Sm.gr gh gt) ?_
          rintro k10 k10' gk10
          refine Sm.b (Sm.is gh gk10) ?_
          intro _ _ _
          refine Sm.b (y_X5_get gk10 gh) ?_
          rintro v11 _ rfl
          refine Sm.b (Sm.gr gh ga1) ?_
          rintro k13 k13' gk13
          refine Sm.b (Sm.is gh gk13) ?_
          intro _ _ _
          refine Sm.b (y_X3_childCount gk13 gh) ?_
          rintro v14 _ rfl
          refine Sm.i ?_ ?_
          · exact Sm.s rfl
          · exact Sm.s rfl
      · rintro p16 _ rfl
        refine Sm.b (Sm.r) ?_
        rintro z17 _ rfl
        exact Sm.s rfl
  · refine Sm.b (Sm.gr gh ga1) ?_
    rintro k18 k18' gk18
    refine Sm.b (Sm.is gh gk18) ?_
    intro _ _ _
    refine Sm.b (y_X3_holds gk18 gh) ?_
    rintro v19 _ rfl
    refine Sm.i ?_ ?_
    · exact Sm.s rfl
    · refine Sm.i ?_ ?_
      · exact Sm.s rfl
      · refine Sm.b (Sm.gr gh ga1) ?_
        rintro k21 k21' gk21
        refine Sm.b (Sm.is gh gk21) ?_
        intro _ _ _
        refine Sm.b (y_X3_holds gk21 gh) ?_
        rintro v22 _ rfl
        refine Sm.b (R := Eq) ?_ ?_
        · refine Sm.i ?_ ?_
          · exact Sm.s rfl
          · refine Sm.b (Sm.gr gh gt) ?_
            rintro k24 k24' gk24
            refine Sm.b (Sm.is gh gk24) ?_
            intro _ _ _
            refine Sm.b (y_X5_get gk24 gh) ?_
            rintro v25 _ rfl
            refine Sm.b (Sm.gr gh ga1) ?_
            rintro k27 k27' gk27
            refine Sm.b (Sm.is gh gk27) ?_
            intro _ _ _
            refine Sm.b (y_X3_childCount gk27 gh) ?_
            rintro v28 _ rfl
            refine Sm.i ?_ ?_
            · exact Sm.s rfl
            · exact Sm.s rfl
        · rintro p30 _ rfl
          refine Sm.b (Sm.r) ?_
          rintro z31 _ rfl
          exact Sm.s rfl
set_option maxHeartbeats 2000000 in
theorem y_X9_doClash {a0 : Int32} {a1 : Int32} {h h' : tq_H} (gh : (Em r d W0 H0 al) h h') : Sm Eq (f_X9_doClash a0 a1 h) (f_X9_doClash a0 a1 h') := by
  unfold f_X9_doClash
  refine Sm.i ?_ ?_
  · refine Sm.l ?_
    refine Sm.b (Sm.r) ?_
    rintro z4 _ rfl
    exact Sm.s rfl
  · refine Sm.l ?_
    refine Sm.b (Sm.r) ?_
    rintro z2 _ rfl
    exact Sm.s rfl
set_option maxHeartbeats 2000000 in
theorem y_X9_hasClash_b2 {i0 i0' : Nat} {i1 : Int32} {hh hh' : tq_H} (gi0 : (Rr r d) i0 i0') (ghh : (Em r d W0 H0 al) hh hh') : ∀ s s', Eq s s' → Sm (Ru Eq (Ru Eq Eq)) (f_X9_hasClash_b2 i0 i1 hh s) (f_X9_hasClash_b2 i0' i1 hh' s') := by
  rintro y2 _ rfl
  dsimp only [f_X9_hasClash_b2]
  refine Sm.i ?_ ?_
  · exact Sm.s (Ru.r (Ru.l rfl))
  · refine Sm.b (Sm.gr ghh gi0) ?_
    rintro k1 k1' gk1
    refine Sm.b (Sm.is ghh gk1) ?_
    intro _ _ _
    refine Sm.b (y_X5_get gk1 ghh) ?_
    rintro v2 _ rfl
    refine Sm.i ?_ ?_
    · refine Sm.l ?_
      exact Sm.s (Ru.l rfl)
    · refine Sm.b (Sm.gr ghh gi0) ?_
      rintro k5 k5' gk5
      refine Sm.b (Sm.is ghh gk5) ?_
      intro _ _ _
      refine Sm.b (y_X5_get gk5 ghh) ?_
      rintro v6 _ rfl
      refine Sm.b (Sm.gr ghh gi0) ?_
      rintro k8 k8' gk8
      refine Sm.b (Sm.is ghh gk8) ?_
      intro _ _ _
      refine Sm.b (y_X5_get gk8 ghh) ?_
      rintro v9 _ rfl
      refine Sm.i ?_ ?_
      · refine Sm.b (Sm.gr ghh gi0) ?_
        rintro k12 k12' gk12
        refine Sm.b (Sm.is ghh gk12) ?_
        intro _ _ _
        refine Sm.b (y_X5_get gk12 ghh) ?_
        rintro v13 _ rfl
        refine Sm.b (Sm.gr ghh gi0) ?_
        rintro k15 k15' gk15
        refine Sm.b (Sm.is ghh gk15) ?_
        intro _ _ _
        refine Sm.b (y_X5_get gk15 ghh) ?_
        rintro v16 _ rfl
        refine Sm.b (y_X9_doClash ghh) ?_
        rintro v18 _ rfl
        refine Sm.i ?_ ?_
        · refine Sm.l ?_
          exact Sm.s (Ru.l rfl)
        · exact Sm.s (Ru.r (Ru.r rfl))
      · refine Sm.l ?_
        exact Sm.s (Ru.l rfl)
set_option maxHeartbeats 2000000 in
theorem y_X9_hasClash {t t' : Nat} {a1 : Int32} {h h' : tq_H} (gt : (Rr r d) t t') (gh : (Em r d W0 H0 al) h h') : Sm Eq (f_X9_hasClash t a1 h) (f_X9_hasClash t' a1 h') := by
  unfold f_X9_hasClash
  refine Sm.u (Sm.w (y_X9_hasClash_b2 gt gh) tq_N rfl) ?_ ?_
  · rintro o20 _ rfl
    exact Sm.s rfl
  · rintro e9 _ rfl
    exact Sm.s rfl
set_option maxHeartbeats 2000000 in
theorem y_X9_canBeDone_b4 {i0 i0' : Nat} {i1 i1' : Nat} {hh hh' : tq_H} (gi0 : (Rr r d) i0 i0') (gi1 : (Rr r d) i1 i1') (ghh : (Em r d W0 H0 al) hh hh') : ∀ s s', (Rp Eq Eq) s s' → Sm (Ru (Rp Eq Eq) (Ru Eq Eq)) (f_X9_canBeDone_b4 i0 i1 hh s) (f_X9_canBeDone_b4 i0' i1' hh' s') := by
  rintro ⟨y2, y3⟩ ⟨_, _⟩ ⟨rfl, rfl⟩
  dsimp only [f_X9_canBeDone_b4]
  refine Sm.b (Sm.gi ghh gi0) ?_
  rintro x1 _ rfl
  refine Sm.i ?_ ?_
  · exact Sm.s (Ru.r (Ru.l rfl))
  · refine Sm.b (Sm.is ghh gi0) ?_
    intro _ _ _
    refine Sm.b (y_X9_isStale gi0 gi1 ghh) ?_
    rintro v2 _ rfl
    refine Sm.i ?_ ?_
    · refine Sm.b (Sm.is ghh gi0) ?_
      intro _ _ _
      refine Sm.b (y_X9_hasClash gi0 ghh) ?_
      rintro v4 _ rfl
      refine Sm.i ?_ ?_
      · refine Sm.b (Sm.gr ghh gi0) ?_
        rintro k6 k6' gk6
        refine Sm.b (Sm.is ghh gk6) ?_
        intro _ _ _
        refine Sm.b (y_X5_get gk6 ghh) ?_
        rintro v7 _ rfl
        refine Sm.l ?_
        refine Sm.l ?_
        refine Sm.l ?_
        exact Sm.s (Ru.l (Rp.i rfl rfl))
      · exact Sm.s (Ru.r (Ru.r rfl))
    · exact Sm.s (Ru.r (Ru.r rfl))
set_option maxHeartbeats 2000000 in
theorem y_X9_canBeDone {t t' : Nat} {a1 a1' : Nat} {h h' : tq_H} (gt : (Rr r d) t t') (ga1 : (Rr r d) a1 a1') (gh : (Em r d W0 H0 al) h h') : Sm Eq (f_X9_canBeDone t a1 h) (f_X9_canBeDone t' a1' h') := by
  unfold f_X9_canBeDone
  refine Sm.u (Sm.w (y_X9_canBeDone_b4 gt ga1 gh) tq_N (Rp.i rfl rfl)) ?_ ?_
  · rintro o12 _ rfl
    refine Sm.b (Sm.is gh ga1) ?_
    intro _ _ _
    refine Sm.b (y_X8_madeCount ga1 gh) ?_
    rintro v13 _ rfl
    refine Sm.l ?_
    refine Sm.b (Sm.r) ?_
    rintro z16 _ rfl
    exact Sm.s rfl
  · rintro e9 _ rfl
    exact Sm.s rfl
set_option maxHeartbeats 2000000 in
theorem y_X9_change {t t' : Nat} {a1 a1' : Nat} {a2 : Int32} {h h' : tq_H} (gt : (Rr r d) t t') (ga1 : (Rr r d) a1 a1') (gh : (Em r d W0 H0 al) h h') : Sm (Em r d W0 H0 al) (f_X9_change t a1 a2 h) (f_X9_change t' a1' a2 h') := by
  unfold f_X9_change
  refine Sm.b (Sm.gr gh gt) ?_
  rintro k1 k1' gk1
  refine Sm.b (Sm.is gh gk1) ?_
  intro _ _ _
  refine Sm.b (y_X5_get gk1 gh) ?_
  rintro v2 _ rfl
  refine Sm.b (Sm.gl gh gt) ?_
  rintro x4 _ rfl
  refine Sm.b (Sm.gr gh gt) ?_
  rintro k5 k5' gk5
  refine Sm.b (Sm.is gh gk5) ?_
  intro _ _ _
  refine Sm.b (y_X5_get gk5 gh) ?_
  rintro v6 _ rfl
  refine Sm.b (y_X0_one gh) ?_
  rintro v8 _ rfl
  refine Sm.b (Sm.pf gh gt (okV_l _)) ?_
  rintro w9 w9' gw9
  refine Sm.b (Sm.gr gw9 gt) ?_
  rintro k10 k10' gk10
  refine Sm.b (Sm.is gw9 gk10) ?_
  intro _ _ _
  refine Sm.b (y_X5_get gk10 gw9) ?_
  rintro v11 _ rfl
  refine Sm.b (R := (Em r d W0 H0 al)) ?_ ?_
  · refine Sm.i ?_ ?_
    · refine Sm.b (Sm.gr gw9 gt) ?_
      rintro k13 k13' gk13
      refine Sm.b (Sm.is gw9 gk13) ?_
      intro _ _ _
      refine Sm.b (y_X5_get gk13 gw9) ?_
      rintro v14 _ rfl
      refine Sm.b (Sm.gr gw9 gt) ?_
      rintro k16 k16' gk16
      refine Sm.b (Sm.is gw9 gk16) ?_
      intro _ _ _
      refine Sm.b (y_X5_get gk16 gw9) ?_
      rintro v17 _ rfl
      refine Sm.b (Sm.gr gw9 gt) ?_
      rintro k19 k19' gk19
      refine Sm.b (Sm.is gw9 gk19) ?_
      intro _ _ _
      refine Sm.b (y_X5_get gk19 gw9) ?_
      rintro v20 _ rfl
      refine Sm.b (Sm.is gw9 ga1) ?_
      intro _ _ _
      refine Sm.b (y_X8_make ga1 gw9) ?_
      rintro ⟨v22a, v22b⟩ ⟨_, v22b'⟩ ⟨rfl, gv22b⟩
      refine Sm.b (Sm.gr gv22b gt) ?_
      rintro k24 k24' gk24
      refine Sm.b (Sm.is gv22b gk24) ?_
      intro _ _ _
      refine Sm.b (y_X5_set gk24 gv22b) ?_
      rintro v25 v25' gv25
      refine Sm.b (Sm.gl gv25 gt) ?_
      rintro x27 _ rfl
      refine Sm.b (y_X0_one gv25) ?_
      rintro v28 _ rfl
      refine Sm.b (Sm.pf gv25 gt (okV_l _)) ?_
      rintro w29 w29' gw29
      exact Sm.s gw29
    · refine Sm.i ?_ ?_
      · refine Sm.b (Sm.gl gw9 gt) ?_
        rintro x30 _ rfl
        refine Sm.b (y_X0_one gw9) ?_
        rintro v31 _ rfl
        refine Sm.b (Sm.pf gw9 gt (okV_l _)) ?_
        rintro w32 w32' gw32
        exact Sm.s gw32
      · refine Sm.i ?_ ?_
        · refine Sm.b (Sm.gr gw9 ga1) ?_
          rintro k33 k33' gk33
          refine Sm.b (Sm.gr gw9 gt) ?_
          rintro k34 k34' gk34
          refine Sm.b (Sm.is gw9 gk34) ?_
          intro _ _ _
          refine Sm.b (y_X5_get gk34 gw9) ?_
          rintro v35 _ rfl
          refine Sm.b (Sm.is gw9 gk33) ?_
          intro _ _ _
          refine Sm.b (y_X5_set gk33 gw9) ?_
          rintro v37 v37' gv37
          exact Sm.s gv37
        · refine Sm.i ?_ ?_
          · refine Sm.b (Sm.gr gw9 ga1) ?_
            rintro k39 k39' gk39
            refine Sm.b (Sm.gr gw9 gt) ?_
            rintro k40 k40' gk40
            refine Sm.b (Sm.is gw9 gk40) ?_
            intro _ _ _
            refine Sm.b (y_X5_get gk40 gw9) ?_
            rintro v41 _ rfl
            refine Sm.b (Sm.is gw9 gk39) ?_
            intro _ _ _
            refine Sm.b (y_X5_set gk39 gw9) ?_
            rintro v43 v43' gv43
            exact Sm.s gv43
          · refine Sm.i ?_ ?_
            · refine Sm.b (Sm.gr gw9 gt) ?_
              rintro k45 k45' gk45
              refine Sm.b (Sm.is gw9 gk45) ?_
              intro _ _ _
              refine Sm.b (y_X5_set gk45 gw9) ?_
              rintro v46 v46' gv46
              refine Sm.b (Sm.gl gv46 gt) ?_
              rintro x48 _ rfl
              refine Sm.b (y_X0_one gv46) ?_
              rintro v49 _ rfl
              refine Sm.b (Sm.pf gv46 gt (okV_l _)) ?_
              rintro w50 w50' gw50
              refine Sm.b (Sm.gl gw50 gt) ?_
              rintro x51 _ rfl
              refine Sm.b (y_X0_one gw50) ?_
              rintro v52 _ rfl
              refine Sm.b (Sm.pf gw50 gt (okV_l _)) ?_
              rintro w53 w53' gw53
              exact Sm.s gw53
            · refine Sm.b (Sm.gr gw9 ga1) ?_
              rintro k54 k54' gk54
              refine Sm.b (Sm.gr gw9 gt) ?_
              rintro k55 k55' gk55
              refine Sm.b (Sm.is gw9 gk55) ?_
              intro _ _ _
              refine Sm.b (y_X5_get gk55 gw9) ?_
              rintro v56 _ rfl
              refine Sm.b (Sm.is gw9 gk54) ?_
              intro _ _ _
              refine Sm.b (y_X5_set gk54 gw9) ?_
              rintro v58 v58' gv58
              exact Sm.s gv58
  · rintro p60 p60' gp60
    exact Sm.s gp60
set_option maxHeartbeats 2000000 in
theorem y_X9_isInto {t t' : Nat} {a1 : Int32} {a2 : Int32} {a3 : Int32} {h h' : tq_H} (gt : (Rr r d) t t') (gh : (Em r d W0 H0 al) h h') : Sm Eq (f_X9_isInto t a1 a2 a3 h) (f_X9_isInto t' a1 a2 a3 h') := by
  unfold f_X9_isInto
  refine Sm.b (Sm.gr gh gt) ?_
  rintro k1 k1' gk1
  refine Sm.b (Sm.is gh gk1) ?_
  intro _ _ _
  refine Sm.b (y_X5_get gk1 gh) ?_
  rintro v2 _ rfl
  refine Sm.b (R := Eq) ?_ ?_
  · refine Sm.i ?_ ?_
    · refine Sm.b (Sm.gr gh gt) ?_
      rintro k4 k4' gk4
      refine Sm.b (Sm.is gh gk4) ?_
      intro _ _ _
      refine Sm.b (y_X5_get gk4 gh) ?_
      rintro v5 _ rfl
      refine Sm.i ?_ ?_
      · exact Sm.s rfl
      · exact Sm.s rfl
    · exact Sm.s rfl
  · rintro p7 _ rfl
    refine Sm.b (Sm.r) ?_
    rintro z8 _ rfl
    exact Sm.s rfl
set_option maxHeartbeats 2000000 in
theorem y_X9_linkAttributes_b70 {i0 i0' : Nat} {i1 i1' : Nat} {i2 i2' : Nat} {i4 : Int32} {i5 : Int64} {i7 : Int32} {i8 : Int32} {i9 : Int32} (gi0 : (Rr r d) i0 i0') (gi1 : (Rr r d) i1 i1') (gi2 : (Rr r d) i2 i2') : ∀ s s', (Rp Eq (Em r d W0 H0 al)) s s' → Sm (Ru (Rp Eq (Em r d W0 H0 al)) (Em r d W0 H0 al)) (f_X9_linkAttributes_b70 i0 i1 i2 i4 i5 i7 i8 i9 s) (f_X9_linkAttributes_b70 i0' i1' i2' i4 i5 i7 i8 i9 s') := by
  rintro ⟨y10, hh⟩ ⟨_, hh'⟩ ⟨rfl, ghh⟩
  dsimp only [f_X9_linkAttributes_b70]
  refine Sm.i ?_ ?_
  · exact Sm.s (Ru.r ghh)
  · refine Sm.b (Sm.gr ghh gi1) ?_
    rintro k12 k12' gk12
    refine Sm.b (Sm.is ghh gk12) ?_
    intro _ _ _
    refine Sm.b (y_X3_nodeOfSet gk12 ghh) ?_
    rintro v13 _ rfl
    refine Sm.b (Sm.gr ghh gi2) ?_
    rintro k15 k15' gk15
    refine Sm.b (Sm.is ghh gk15) ?_
    intro _ _ _
    refine Sm.b (y_X5_get gk15 ghh) ?_
    rintro v16 _ rfl
    refine Sm.b (R := (Em r d W0 H0 al)) ?_ ?_
    · refine Sm.i ?_ ?_
      · refine Sm.b (Sm.gl ghh gi0) ?_
        rintro x18 _ rfl
        refine Sm.b (y_X0_holds ghh) ?_
        rintro v19 _ rfl
        refine Sm.i ?_ ?_
        · refine Sm.b (Sm.is ghh gi2) ?_
          intro _ _ _
          refine Sm.b (y_X8_append gi2 ghh) ?_
          rintro v20 v20' gv20
          exact Sm.s gv20
        · exact Sm.s ghh
      · exact Sm.s ghh
    · rintro p22 p22' gp22
      refine Sm.l ?_
      exact Sm.s (Ru.l (Rp.i rfl gp22))
set_option maxHeartbeats 2000000 in
theorem y_X9_linkAttributes_b133 {i0 i0' : Nat} {i1 i1' : Nat} {i2 i2' : Nat} {i4 : Int32} {i5 : Int64} {i7 : Int32} {i8 : Int32} {i9 : Int32} (gi0 : (Rr r d) i0 i0') (gi1 : (Rr r d) i1 i1') (gi2 : (Rr r d) i2 i2') : ∀ s s', (Rp Eq (Em r d W0 H0 al)) s s' → Sm (Ru (Rp Eq (Em r d W0 H0 al)) (Em r d W0 H0 al)) (f_X9_linkAttributes_b133 i0 i1 i2 i4 i5 i7 i8 i9 s) (f_X9_linkAttributes_b133 i0' i1' i2' i4 i5 i7 i8 i9 s') := by
  rintro ⟨y10, hh⟩ ⟨_, hh'⟩ ⟨rfl, ghh⟩
  dsimp only [f_X9_linkAttributes_b133]
  refine Sm.i ?_ ?_
  · exact Sm.s (Ru.r ghh)
  · refine Sm.b (Sm.is ghh gi0) ?_
    intro _ _ _
    refine Sm.b (y_X9_isInto gi0 ghh) ?_
    rintro v25 _ rfl
    refine Sm.b (R := (Em r d W0 H0 al)) ?_ ?_
    · refine Sm.i ?_ ?_
      · exact Sm.s ghh
      · refine Sm.b (Sm.gr ghh gi0) ?_
        rintro k27 k27' gk27
        refine Sm.b (Sm.is ghh gk27) ?_
        intro _ _ _
        refine Sm.b (y_X5_get gk27 ghh) ?_
        rintro v28 _ rfl
        refine Sm.i ?_ ?_
        · refine Sm.b (Sm.gr ghh gi0) ?_
          rintro k30 k30' gk30
          refine Sm.b (Sm.is ghh gk30) ?_
          intro _ _ _
          refine Sm.b (y_X5_get gk30 ghh) ?_
          rintro v31 _ rfl
          refine Sm.b (Sm.is ghh gi2) ?_
          intro _ _ _
          refine Sm.b (y_X8_append gi2 ghh) ?_
          rintro v33 v33' gv33
          exact Sm.s gv33
        · exact Sm.s ghh
    · rintro p35 p35' gp35
      refine Sm.l ?_
      exact Sm.s (Ru.l (Rp.i rfl gp35))
set_option maxHeartbeats 2000000 in
theorem y_X9_linkAttributes_b52 {i0 i0' : Nat} {i1 i1' : Nat} {i2 i2' : Nat} {i4 : Int32} {i5 : Int64} {i7 : Int32} {i8 : Int32} (gi0 : (Rr r d) i0 i0') (gi1 : (Rr r d) i1 i1') (gi2 : (Rr r d) i2 i2') : ∀ s s', (Rp Eq (Em r d W0 H0 al)) s s' → Sm (Ru (Rp Eq (Em r d W0 H0 al)) (Em r d W0 H0 al)) (f_X9_linkAttributes_b52 i0 i1 i2 i4 i5 i7 i8 s) (f_X9_linkAttributes_b52 i0' i1' i2' i4 i5 i7 i8 s') := by
  rintro ⟨y9, hh⟩ ⟨_, hh'⟩ ⟨rfl, ghh⟩
  dsimp only [f_X9_linkAttributes_b52]
  refine Sm.i ?_ ?_
  · exact Sm.s (Ru.r ghh)
  · refine Sm.i ?_ ?_
    · exact Sm.s (Ru.r ghh)
    · refine Sm.b (Sm.w (y_X9_linkAttributes_b70 gi0 gi1 gi2) tq_N (Rp.i rfl ghh)) ?_
      rintro o24 o24' go24
      refine Sm.b (Sm.w (y_X9_linkAttributes_b133 gi0 gi1 gi2) tq_N (Rp.i rfl go24)) ?_
      rintro o37 o37' go37
      refine Sm.l ?_
      exact Sm.s (Ru.l (Rp.i rfl go37))
set_option maxHeartbeats 2000000 in
theorem y_X9_linkAttributes {t t' : Nat} {a1 a1' : Nat} {a2 a2' : Nat} {a3 : Int32} {h h' : tq_H} (gt : (Rr r d) t t') (ga1 : (Rr r d) a1 a1') (ga2 : (Rr r d) a2 a2') (gh : (Em r d W0 H0 al) h h') : Sm (Em r d W0 H0 al) (f_X9_linkAttributes t a1 a2 a3 h) (f_X9_linkAttributes t' a1' a2' a3 h') := by
  unfold f_X9_linkAttributes
  refine Sm.b (Sm.gr gh ga1) ?_
  rintro k1 k1' gk1
  refine Sm.b (Sm.is gh gk1) ?_
  intro _ _ _
  refine Sm.b (y_X3_nodeAt gk1 gh) ?_
  rintro v2 _ rfl
  refine Sm.b (Sm.gr gh ga1) ?_
  rintro k4 k4' gk4
  refine Sm.b (Sm.is gh gk4) ?_
  intro _ _ _
  refine Sm.b (y_X3_attributesOf gk4 gh) ?_
  rintro v5 _ rfl
  refine Sm.b (y_J13_bitCount_95d88 gh) ?_
  rintro v7 _ rfl
  refine Sm.b (Sm.gl gh gt) ?_
  rintro x8 _ rfl
  refine Sm.b (y_X0_holds gh) ?_
  rintro v9 _ rfl
  refine Sm.b (R := Eq) ?_ ?_
  · refine Sm.i ?_ ?_
    · exact Sm.s rfl
    · refine Sm.b (Sm.gi gh gt) ?_
      rintro x10 _ rfl
      exact Sm.s rfl
  · rintro p11 _ rfl
    refine Sm.b (Sm.w (y_X9_linkAttributes_b52 gt ga1 ga2) tq_N (Rp.i rfl gh)) ?_
    rintro o39 o39' go39
    exact Sm.s go39
set_option maxHeartbeats 2000000 in
theorem y_X9_linkChildren_b62 {i0 i0' : Nat} {i1 i1' : Nat} {i2 i2' : Nat} {i4 : Int32} {i5 : Int64} {i7 : Int32} {i8 : Int32} {i9 : Int32} (gi0 : (Rr r d) i0 i0') (gi1 : (Rr r d) i1 i1') (gi2 : (Rr r d) i2 i2') : ∀ s s', (Rp Eq (Em r d W0 H0 al)) s s' → Sm (Ru (Rp Eq (Em r d W0 H0 al)) (Em r d W0 H0 al)) (f_X9_linkChildren_b62 i0 i1 i2 i4 i5 i7 i8 i9 s) (f_X9_linkChildren_b62 i0' i1' i2' i4 i5 i7 i8 i9 s') := by
  rintro ⟨y10, hh⟩ ⟨_, hh'⟩ ⟨rfl, ghh⟩
  dsimp only [f_X9_linkChildren_b62]
  refine Sm.i ?_ ?_
  · exact Sm.s (Ru.r ghh)
  · refine Sm.b (Sm.is ghh gi0) ?_
    intro _ _ _
    refine Sm.b (y_X9_isInto gi0 ghh) ?_
    rintro v12 _ rfl
    refine Sm.b (R := (Em r d W0 H0 al)) ?_ ?_
    · refine Sm.i ?_ ?_
      · exact Sm.s ghh
      · refine Sm.b (Sm.gr ghh gi0) ?_
        rintro k14 k14' gk14
        refine Sm.b (Sm.is ghh gk14) ?_
        intro _ _ _
        refine Sm.b (y_X5_get gk14 ghh) ?_
        rintro v15 _ rfl
        refine Sm.b (Sm.is ghh gi2) ?_
        intro _ _ _
        refine Sm.b (y_X8_append gi2 ghh) ?_
        rintro v17 v17' gv17
        exact Sm.s gv17
    · rintro p19 p19' gp19
      refine Sm.l ?_
      exact Sm.s (Ru.l (Rp.i rfl gp19))
set_option maxHeartbeats 2000000 in
theorem y_X9_linkChildren_b52 {i0 i0' : Nat} {i1 i1' : Nat} {i2 i2' : Nat} {i4 : Int32} {i5 : Int64} {i7 : Int32} {i8 : Int32} (gi0 : (Rr r d) i0 i0') (gi1 : (Rr r d) i1 i1') (gi2 : (Rr r d) i2 i2') : ∀ s s', (Rp Eq (Em r d W0 H0 al)) s s' → Sm (Ru (Rp Eq (Em r d W0 H0 al)) (Em r d W0 H0 al)) (f_X9_linkChildren_b52 i0 i1 i2 i4 i5 i7 i8 s) (f_X9_linkChildren_b52 i0' i1' i2' i4 i5 i7 i8 s') := by
  rintro ⟨y9, hh⟩ ⟨_, hh'⟩ ⟨rfl, ghh⟩
  dsimp only [f_X9_linkChildren_b52]
  refine Sm.i ?_ ?_
  · exact Sm.s (Ru.r ghh)
  · refine Sm.b (Sm.w (y_X9_linkChildren_b62 gi0 gi1 gi2) tq_N (Rp.i rfl ghh)) ?_
    rintro o21 o21' go21
    refine Sm.b (Sm.gr go21 gi1) ?_
    rintro k22 k22' gk22
    refine Sm.b (Sm.is go21 gk22) ?_
    intro _ _ _
    refine Sm.b (y_X3_nodeOfSet gk22 go21) ?_
    rintro v23 _ rfl
    refine Sm.b (R := (Em r d W0 H0 al)) ?_ ?_
    · refine Sm.i ?_ ?_
      · exact Sm.s go21
      · refine Sm.b (Sm.gl go21 gi0) ?_
        rintro x25 _ rfl
        refine Sm.b (y_X0_holds go21) ?_
        rintro v26 _ rfl
        refine Sm.i ?_ ?_
        · refine Sm.b (Sm.is go21 gi2) ?_
          intro _ _ _
          refine Sm.b (y_X8_append gi2 go21) ?_
          rintro v27 v27' gv27
          exact Sm.s gv27
        · exact Sm.s go21
    · rintro p29 p29' gp29
      refine Sm.l ?_
      exact Sm.s (Ru.l (Rp.i rfl gp29))
set_option maxHeartbeats 2000000 in
theorem y_X9_linkChildren {t t' : Nat} {a1 a1' : Nat} {a2 a2' : Nat} {a3 : Int32} {h h' : tq_H} (gt : (Rr r d) t t') (ga1 : (Rr r d) a1 a1') (ga2 : (Rr r d) a2 a2') (gh : (Em r d W0 H0 al) h h') : Sm (Em r d W0 H0 al) (f_X9_linkChildren t a1 a2 a3 h) (f_X9_linkChildren t' a1' a2' a3 h') := by
  unfold f_X9_linkChildren
  refine Sm.b (Sm.gr gh ga1) ?_
  rintro k1 k1' gk1
  refine Sm.b (Sm.is gh gk1) ?_
  intro _ _ _
  refine Sm.b (y_X3_nodeAt gk1 gh) ?_
  rintro v2 _ rfl
  refine Sm.b (Sm.gr gh ga1) ?_
  rintro k4 k4' gk4
  refine Sm.b (Sm.is gh gk4) ?_
  intro _ _ _
  refine Sm.b (y_X3_children gk4 gh) ?_
  rintro v5 _ rfl
  refine Sm.b (y_J13_bitCount_95d88 gh) ?_
  rintro v7 _ rfl
  refine Sm.b (Sm.gl gh gt) ?_
  rintro x8 _ rfl
  refine Sm.b (y_X0_holds gh) ?_
  rintro v9 _ rfl
  refine Sm.b (R := Eq) ?_ ?_
  · refine Sm.i ?_ ?_
    · exact Sm.s rfl
    · refine Sm.b (Sm.gi gh gt) ?_
      rintro x10 _ rfl
      exact Sm.s rfl
  · rintro p11 _ rfl
    refine Sm.b (Sm.w (y_X9_linkChildren_b52 gt ga1 ga2) tq_N (Rp.i rfl gh)) ?_
    rintro o31 o31' go31
    exact Sm.s go31
set_option maxHeartbeats 2000000 in
theorem y_X9_build_b22 {i0 i0' : Nat} {i1 i1' : Nat} {i2 i2' : Nat} (gi0 : (Rr r d) i0 i0') (gi1 : (Rr r d) i1 i1') (gi2 : (Rr r d) i2 i2') : ∀ s s', (Rp Eq (Em r d W0 H0 al)) s s' → Sm (Ru (Rp Eq (Em r d W0 H0 al)) (Em r d W0 H0 al)) (f_X9_build_b22 i0 i1 i2 s) (f_X9_build_b22 i0' i1' i2' s') := by
  rintro ⟨y3, hh⟩ ⟨_, hh'⟩ ⟨rfl, ghh⟩
  dsimp only [f_X9_build_b22]
  refine Sm.b (Sm.gi ghh gi0) ?_
  rintro x6 _ rfl
  refine Sm.i ?_ ?_
  · exact Sm.s (Ru.r ghh)
  · refine Sm.b (Sm.is ghh gi0) ?_
    intro _ _ _
    refine Sm.b (y_X9_change gi0 gi2 ghh) ?_
    rintro v7 v7' gv7
    refine Sm.l ?_
    exact Sm.s (Ru.l (Rp.i rfl gv7))
set_option maxHeartbeats 2000000 in
theorem y_X9_build_b44 {i0 i0' : Nat} {i1 i1' : Nat} {i2 i2' : Nat} (gi0 : (Rr r d) i0 i0') (gi1 : (Rr r d) i1 i1') (gi2 : (Rr r d) i2 i2') : ∀ s s', (Rp Eq (Em r d W0 H0 al)) s s' → Sm (Ru (Rp Eq (Em r d W0 H0 al)) (Em r d W0 H0 al)) (f_X9_build_b44 i0 i1 i2 s) (f_X9_build_b44 i0' i1' i2' s') := by
  rintro ⟨y3, hh⟩ ⟨_, hh'⟩ ⟨rfl, ghh⟩
  dsimp only [f_X9_build_b44]
  refine Sm.b (Sm.gr ghh gi1) ?_
  rintro k11 k11' gk11
  refine Sm.b (Sm.is ghh gk11) ?_
  intro _ _ _
  refine Sm.b (y_X3_count gk11 ghh) ?_
  rintro v12 _ rfl
  refine Sm.i ?_ ?_
  · exact Sm.s (Ru.r ghh)
  · refine Sm.b (Sm.gr ghh gi1) ?_
    rintro k14 k14' gk14
    refine Sm.b (Sm.is ghh gk14) ?_
    intro _ _ _
    refine Sm.b (y_X3_elements gk14 ghh) ?_
    rintro v15 _ rfl
    refine Sm.b (y_X0_holds ghh) ?_
    rintro v17 _ rfl
    refine Sm.b (R := (Em r d W0 H0 al)) ?_ ?_
    · refine Sm.i ?_ ?_
      · exact Sm.s ghh
      · refine Sm.b (Sm.is ghh gi0) ?_
        intro _ _ _
        refine Sm.b (y_X9_linkAttributes gi0 gi1 gi2 ghh) ?_
        rintro v18 v18' gv18
        refine Sm.b (Sm.is gv18 gi0) ?_
        intro _ _ _
        refine Sm.b (y_X9_linkChildren gi0 gi1 gi2 gv18) ?_
        rintro v20 v20' gv20
        exact Sm.s gv20
    · rintro p22 p22' gp22
      refine Sm.l ?_
      exact Sm.s (Ru.l (Rp.i rfl gp22))
set_option maxHeartbeats 2000000 in
theorem y_X9_build {t t' : Nat} {a1 a1' : Nat} {a2 a2' : Nat} {h h' : tq_H} (gt : (Rr r d) t t') (ga1 : (Rr r d) a1 a1') (ga2 : (Rr r d) a2 a2') (gh : (Em r d W0 H0 al) h h') : Sm (Em r d W0 H0 al) (f_X9_build t a1 a2 h) (f_X9_build t' a1' a2' h') := by
  unfold f_X9_build
  refine Sm.b (Sm.is gh ga2) ?_
  intro _ _ _
  refine Sm.b (y_X8_copyLoose ga2 ga1 gh) ?_
  rintro v1 v1' gv1
  refine Sm.b (Sm.pf gv1 gt (okV_l _)) ?_
  rintro w3 w3' gw3
  refine Sm.b (Sm.pf gw3 gt (okV_l _)) ?_
  rintro w4 w4' gw4
  refine Sm.b (Sm.pf gw4 gt (okV_l _)) ?_
  rintro w5 w5' gw5
  refine Sm.b (Sm.w (y_X9_build_b22 gt ga1 ga2) tq_N (Rp.i rfl gw5)) ?_
  rintro o10 o10' go10
  refine Sm.b (Sm.w (y_X9_build_b44 gt ga1 ga2) tq_N (Rp.i rfl go10)) ?_
  rintro o24 o24' go24
  refine Sm.b (Sm.is go24 ga2) ?_
  intro _ _ _
  refine Sm.b (y_X8_layOut ga2 go24) ?_
  rintro v25 v25' gv25
  exact Sm.s gv25
set_option maxHeartbeats 2000000 in
theorem y_X1_init {t t' : Nat} {h h' : tq_H} (ha : al) (gt : (Rr r d) t t') (gh : (Em r d W0 H0 al) h h') : Sm (Em r d W0 H0 al) (f_X1_init t h) (f_X1_init t' h') := by
  unfold f_X1_init
  refine Sm.n ha gh (okO_l rfl) (fun w1 w1' gw1 => ?_)
  refine Sm.b (y_X5_init ha (gh.nr ha) gw1) ?_
  rintro v2 v2' gv2
  refine Sm.b (Sm.pf gv2 gt (okV_r (gh.nr ha))) ?_
  rintro w3 w3' gw3
  refine Sm.n ha gw3 (okO_l rfl) (fun w4 w4' gw4 => ?_)
  refine Sm.b (y_X5_init ha (gw3.nr ha) gw4) ?_
  rintro v5 v5' gv5
  refine Sm.b (Sm.pf gv5 gt (okV_r (gw3.nr ha))) ?_
  rintro w6 w6' gw6
  refine Sm.n ha gw6 (okO_l rfl) (fun w7 w7' gw7 => ?_)
  refine Sm.b (y_X5_init ha (gw6.nr ha) gw7) ?_
  rintro v8 v8' gv8
  refine Sm.b (Sm.pf gv8 gt (okV_r (gw6.nr ha))) ?_
  rintro w9 w9' gw9
  refine Sm.n ha gw9 (okO_l rfl) (fun w10 w10' gw10 => ?_)
  refine Sm.b (y_X5_init ha (gw9.nr ha) gw10) ?_
  rintro v11 v11' gv11
  refine Sm.b (Sm.pf gv11 gt (okV_r (gw9.nr ha))) ?_
  rintro w12 w12' gw12
  refine Sm.n ha gw12 (okO_l rfl) (fun w13 w13' gw13 => ?_)
  refine Sm.b (y_X5_init ha (gw12.nr ha) gw13) ?_
  rintro v14 v14' gv14
  refine Sm.b (Sm.pf gv14 gt (okV_r (gw12.nr ha))) ?_
  rintro w15 w15' gw15
  refine Sm.n ha gw15 (okO_l rfl) (fun w16 w16' gw16 => ?_)
  refine Sm.b (y_X5_init ha (gw15.nr ha) gw16) ?_
  rintro v17 v17' gv17
  refine Sm.b (Sm.pf gv17 gt (okV_r (gw15.nr ha))) ?_
  rintro w18 w18' gw18
  refine Sm.n ha gw18 (okO_l rfl) (fun w19 w19' gw19 => ?_)
  refine Sm.b (y_X5_init ha (gw18.nr ha) gw19) ?_
  rintro v20 v20' gv20
  refine Sm.b (Sm.pf gv20 gt (okV_r (gw18.nr ha))) ?_
  rintro w21 w21' gw21
  exact Sm.s gw21
set_option maxHeartbeats 2000000 in
theorem y_X1_known {t t' : Nat} {a1 : Int32} {a2 : Int32} {h h' : tq_H} (gt : (Rr r d) t t') (gh : (Em r d W0 H0 al) h h') : Sm Eq (f_X1_known t a1 a2 h) (f_X1_known t' a1 a2 h') := by
  unfold f_X1_known
  refine Sm.b (Sm.gr gh gt) ?_
  rintro k1 k1' gk1
  refine Sm.b (Sm.is gh gk1) ?_
  intro _ _ _
  refine Sm.b (y_X5_get gk1 gh) ?_
  rintro v2 _ rfl
  exact Sm.s rfl
set_option maxHeartbeats 2000000 in
theorem y_X1_note {t t' : Nat} {a1 : Int32} {a2 : Int32} {a3 : Int32} {h h' : tq_H} (gt : (Rr r d) t t') (gh : (Em r d W0 H0 al) h h') : Sm (Em r d W0 H0 al) (f_X1_note t a1 a2 a3 h) (f_X1_note t' a1 a2 a3 h') := by
  unfold f_X1_note
  refine Sm.b (Sm.gr gh gt) ?_
  rintro k1 k1' gk1
  refine Sm.b (Sm.is gh gk1) ?_
  intro _ _ _
  refine Sm.b (y_X5_set gk1 gh) ?_
  rintro v2 v2' gv2
  refine Sm.b (Sm.gr gv2 gt) ?_
  rintro k4 k4' gk4
  refine Sm.b (Sm.is gv2 gk4) ?_
  intro _ _ _
  refine Sm.b (y_X5_set gk4 gv2) ?_
  rintro v5 v5' gv5
  exact Sm.s gv5
set_option maxHeartbeats 2000000 in
theorem y_X1_line_b2 {i0 i0' : Nat} {i1 i1' : Nat} {i2 i2' : Nat} (gi0 : (Rr r d) i0 i0') (gi1 : (Rr r d) i1 i1') (gi2 : (Rr r d) i2 i2') : ∀ s s', (Rp Eq (Em r d W0 H0 al)) s s' → Sm (Ru (Rp Eq (Em r d W0 H0 al)) (Em r d W0 H0 al)) (f_X1_line_b2 i0 i1 i2 s) (f_X1_line_b2 i0' i1' i2' s') := by
  rintro ⟨y3, hh⟩ ⟨_, hh'⟩ ⟨rfl, ghh⟩
  dsimp only [f_X1_line_b2]
  refine Sm.b (Sm.is ghh gi0) ?_
  intro _ _ _
  refine Sm.b (y_X3_count gi0 ghh) ?_
  rintro v1 _ rfl
  refine Sm.i ?_ ?_
  · exact Sm.s (Ru.r ghh)
  · refine Sm.b (Sm.is ghh gi0) ?_
    intro _ _ _
    refine Sm.b (y_X3_depthAt gi0 ghh) ?_
    rintro v3 _ rfl
    refine Sm.l ?_
    refine Sm.b (Sm.is ghh gi0) ?_
    intro _ _ _
    refine Sm.b (y_X3_sizeAt gi0 ghh) ?_
    rintro v6 _ rfl
    refine Sm.l ?_
    refine Sm.b (Sm.is ghh gi0) ?_
    intro _ _ _
    refine Sm.b (y_X3_nodeAt gi0 ghh) ?_
    rintro v9 _ rfl
    refine Sm.b (Sm.is ghh gi1) ?_
    intro _ _ _
    refine Sm.b (y_X5_set gi1 ghh) ?_
    rintro v11 v11' gv11
    refine Sm.b (Sm.is gv11 gi2) ?_
    intro _ _ _
    refine Sm.b (y_X5_set gi2 gv11) ?_
    rintro v13 v13' gv13
    refine Sm.l ?_
    exact Sm.s (Ru.l (Rp.i rfl gv13))
set_option maxHeartbeats 2000000 in
theorem y_X1_line {a0 a0' : Nat} {a1 a1' : Nat} {a2 a2' : Nat} {h h' : tq_H} (ga0 : (Rr r d) a0 a0') (ga1 : (Rr r d) a1 a1') (ga2 : (Rr r d) a2 a2') (gh : (Em r d W0 H0 al) h h') : Sm (Em r d W0 H0 al) (f_X1_line a0 a1 a2 h) (f_X1_line a0' a1' a2' h') := by
  unfold f_X1_line
  refine Sm.b (Sm.w (y_X1_line_b2 ga0 ga1 ga2) tq_N (Rp.i rfl gh)) ?_
  rintro o16 o16' go16
  exact Sm.s go16
set_option maxHeartbeats 2000000 in
theorem y_X1_outermost_b10 {i0 i0' : Nat} {hh hh' : tq_H} (gi0 : (Rr r d) i0 i0') (ghh : (Em r d W0 H0 al) hh hh') : ∀ s s', (Rp Eq (Rp Eq Eq)) s s' → Sm (Ru (Rp Eq (Rp Eq Eq)) Eq) (f_X1_outermost_b10 i0 hh s) (f_X1_outermost_b10 i0' hh' s') := by
  rintro ⟨y2, ⟨y4, y6⟩⟩ ⟨_, ⟨_, _⟩⟩ ⟨rfl, ⟨rfl, rfl⟩⟩
  dsimp only [f_X1_outermost_b10]
  refine Sm.i ?_ ?_
  · exact Sm.s (Ru.r rfl)
  · refine Sm.b (Sm.is ghh gi0) ?_
    intro _ _ _
    refine Sm.b (y_X5_get gi0 ghh) ?_
    rintro v2 _ rfl
    refine Sm.b (y_X0_holds ghh) ?_
    rintro v4 _ rfl
    refine Sm.b (R := Eq) ?_ ?_
    · refine Sm.i ?_ ?_
      · refine Sm.b (y_X0_one ghh) ?_
        rintro v5 _ rfl
        refine Sm.l ?_
        exact Sm.s rfl
      · exact Sm.s rfl
    · rintro p7 _ rfl
      refine Sm.b (Sm.is ghh gi0) ?_
      intro _ _ _
      refine Sm.b (y_X5_get gi0 ghh) ?_
      rintro v8 _ rfl
      refine Sm.b (y_X0_one ghh) ?_
      rintro v10 _ rfl
      refine Sm.l ?_
      refine Sm.l ?_
      exact Sm.s (Ru.l (Rp.i rfl (Rp.i rfl rfl)))
set_option maxHeartbeats 2000000 in
theorem y_X1_outermost {a0 a0' : Nat} {a1 : Int32} {h h' : tq_H} (ga0 : (Rr r d) a0 a0') (gh : (Em r d W0 H0 al) h h') : Sm Eq (f_X1_outermost a0 a1 h) (f_X1_outermost a0' a1 h') := by
  unfold f_X1_outermost
  refine Sm.l ?_
  refine Sm.b (Sm.w (y_X1_outermost_b10 ga0 gh) tq_N (Rp.i rfl (Rp.i rfl rfl))) ?_
  rintro o13 _ rfl
  exact Sm.s rfl
set_option maxHeartbeats 2000000 in
theorem y_X1_compareForests {t t' : Nat} {a1 : Int32} {a2 : Int32} {a3 : Int32} {a4 : Int32} {a5 : Int32} {h h' : tq_H} (gt : (Rr r d) t t') (gh : (Em r d W0 H0 al) h h') : Sm (Em r d W0 H0 al) (f_X1_compareForests t a1 a2 a3 a4 a5 h) (f_X1_compareForests t' a1 a2 a3 a4 a5 h') := by
  unfold f_X1_compareForests
  refine Sm.l ?_
  refine Sm.l ?_
  refine Sm.b (Sm.gr gh gt) ?_
  rintro k3 k3' gk3
  refine Sm.b (Sm.is gh gk3) ?_
  intro _ _ _
  refine Sm.b (y_X5_get gk3 gh) ?_
  rintro v4 _ rfl
  refine Sm.b (Sm.gr gh gt) ?_
  rintro k6 k6' gk6
  refine Sm.b (Sm.is gh gk6) ?_
  intro _ _ _
  refine Sm.b (y_X5_get gk6 gh) ?_
  rintro v7 _ rfl
  refine Sm.l ?_
  refine Sm.b (Sm.gr gh gt) ?_
  rintro k10 k10' gk10
  refine Sm.b (Sm.is gh gk10) ?_
  intro _ _ _
  refine Sm.b (y_X5_get gk10 gh) ?_
  rintro v11 _ rfl
  refine Sm.b (R := (Rp Eq (Em r d W0 H0 al))) ?_ ?_
  · refine Sm.i ?_ ?_
    · refine Sm.b (Sm.gr gh gt) ?_
      rintro k26 k26' gk26
      refine Sm.b (Sm.is gh gk26) ?_
      intro _ _ _
      refine Sm.b (y_X5_get gk26 gh) ?_
      rintro v27 _ rfl
      refine Sm.i ?_ ?_
      · refine Sm.b (Sm.gr gh gt) ?_
        rintro k42 k42' gk42
        refine Sm.b (Sm.is gh gk42) ?_
        intro _ _ _
        refine Sm.b (y_X5_get gk42 gh) ?_
        rintro v43 _ rfl
        refine Sm.l ?_
        refine Sm.b (Sm.gr gh gt) ?_
        rintro k46 k46' gk46
        refine Sm.b (Sm.is gh gk46) ?_
        intro _ _ _
        refine Sm.b (y_X5_set gk46 gh) ?_
        rintro v47 v47' gv47
        exact Sm.s (Rp.i rfl gv47)
      · refine Sm.b (Sm.gr gh gt) ?_
        rintro k29 k29' gk29
        refine Sm.b (Sm.gr gh gt) ?_
        rintro k30 k30' gk30
        refine Sm.b (Sm.is gh gk30) ?_
        intro _ _ _
        refine Sm.b (y_X5_get gk30 gh) ?_
        rintro v31 _ rfl
        refine Sm.b (Sm.gr gh gt) ?_
        rintro k33 k33' gk33
        refine Sm.b (Sm.is gh gk33) ?_
        intro _ _ _
        refine Sm.b (y_X5_get gk33 gh) ?_
        rintro v34 _ rfl
        refine Sm.b (Sm.is gh gk29) ?_
        intro _ _ _
        refine Sm.b (y_X5_get gk29 gh) ?_
        rintro v36 _ rfl
        refine Sm.b (Sm.gr gh gt) ?_
        rintro k38 k38' gk38
        refine Sm.b (Sm.is gh gk38) ?_
        intro _ _ _
        refine Sm.b (y_X5_get gk38 gh) ?_
        rintro v39 _ rfl
        refine Sm.l ?_
        exact Sm.s (Rp.i rfl gh)
    · refine Sm.b (Sm.gr gh gt) ?_
      rintro k13 k13' gk13
      refine Sm.b (Sm.gr gh gt) ?_
      rintro k14 k14' gk14
      refine Sm.b (Sm.is gh gk14) ?_
      intro _ _ _
      refine Sm.b (y_X5_get gk14 gh) ?_
      rintro v15 _ rfl
      refine Sm.b (Sm.gr gh gt) ?_
      rintro k17 k17' gk17
      refine Sm.b (Sm.is gh gk17) ?_
      intro _ _ _
      refine Sm.b (y_X5_get gk17 gh) ?_
      rintro v18 _ rfl
      refine Sm.b (Sm.is gh gk13) ?_
      intro _ _ _
      refine Sm.b (y_X5_get gk13 gh) ?_
      rintro v20 _ rfl
      refine Sm.b (Sm.gr gh gt) ?_
      rintro k22 k22' gk22
      refine Sm.b (Sm.is gh gk22) ?_
      intro _ _ _
      refine Sm.b (y_X5_get gk22 gh) ?_
      rintro v23 _ rfl
      refine Sm.l ?_
      exact Sm.s (Rp.i rfl gh)
  · rintro ⟨p49a, p49b⟩ ⟨_, p49b'⟩ ⟨rfl, gp49b⟩
    refine Sm.b (Sm.gr gp49b gt) ?_
    rintro k50 k50' gk50
    refine Sm.b (Sm.is gp49b gk50) ?_
    intro _ _ _
    refine Sm.b (y_X5_set gk50 gp49b) ?_
    rintro v51 v51' gv51
    exact Sm.s gv51
set_option maxHeartbeats 2000000 in
theorem y_X1_compare_b24 {i0 i0' : Nat} {i1 i1' : Nat} {i2 i2' : Nat} {i3 : Int32} {i4 : Int32} {i5 : Int32} {i6 : Int32} (gi0 : (Rr r d) i0 i0') (gi1 : (Rr r d) i1 i1') (gi2 : (Rr r d) i2 i2') : ∀ s s', (Rp Eq (Em r d W0 H0 al)) s s' → Sm (Ru (Rp Eq (Em r d W0 H0 al)) (Em r d W0 H0 al)) (f_X1_compare_b24 i0 i1 i2 i3 i4 i5 i6 s) (f_X1_compare_b24 i0' i1' i2' i3 i4 i5 i6 s') := by
  rintro ⟨y7, hh⟩ ⟨_, hh'⟩ ⟨rfl, ghh⟩
  dsimp only [f_X1_compare_b24]
  refine Sm.i ?_ ?_
  · exact Sm.s (Ru.r ghh)
  · refine Sm.b (Sm.gr ghh gi0) ?_
    rintro k7 k7' gk7
    refine Sm.b (Sm.is ghh gk7) ?_
    intro _ _ _
    refine Sm.b (y_X5_set gk7 ghh) ?_
    rintro v8 v8' gv8
    refine Sm.l ?_
    exact Sm.s (Ru.l (Rp.i rfl gv8))
set_option maxHeartbeats 2000000 in
theorem y_X1_compare_b58 {i0 i0' : Nat} {i1 i1' : Nat} {i2 i2' : Nat} {i3 : Int32} {i4 : Int32} {i5 : Int32} {i6 : Int32} (gi0 : (Rr r d) i0 i0') (gi1 : (Rr r d) i1 i1') (gi2 : (Rr r d) i2 i2') : ∀ s s', (Rp Eq (Em r d W0 H0 al)) s s' → Sm (Ru (Rp Eq (Em r d W0 H0 al)) (Em r d W0 H0 al)) (f_X1_compare_b58 i0 i1 i2 i3 i4 i5 i6 s) (f_X1_compare_b58 i0' i1' i2' i3 i4 i5 i6 s') := by
  rintro ⟨y7, hh⟩ ⟨_, hh'⟩ ⟨rfl, ghh⟩
  dsimp only [f_X1_compare_b58]
  refine Sm.i ?_ ?_
  · exact Sm.s (Ru.r ghh)
  · refine Sm.b (Sm.gr ghh gi0) ?_
    rintro k12 k12' gk12
    refine Sm.b (Sm.is ghh gk12) ?_
    intro _ _ _
    refine Sm.b (y_X5_set gk12 ghh) ?_
    rintro v13 v13' gv13
    refine Sm.l ?_
    exact Sm.s (Ru.l (Rp.i rfl gv13))
set_option maxHeartbeats 2000000 in
theorem y_X1_compare_b101 {i0 i0' : Nat} {i1 i1' : Nat} {i2 i2' : Nat} {i3 : Int32} {i4 : Int32} {i5 : Int32} {i6 : Int32} {i7 : Int32} (gi0 : (Rr r d) i0 i0') (gi1 : (Rr r d) i1 i1') (gi2 : (Rr r d) i2 i2') : ∀ s s', (Rp Eq (Em r d W0 H0 al)) s s' → Sm (Ru (Rp Eq (Em r d W0 H0 al)) (Em r d W0 H0 al)) (f_X1_compare_b101 i0 i1 i2 i3 i4 i5 i6 i7 s) (f_X1_compare_b101 i0' i1' i2' i3 i4 i5 i6 i7 s') := by
  rintro ⟨y8, hh⟩ ⟨_, hh'⟩ ⟨rfl, ghh⟩
  dsimp only [f_X1_compare_b101]
  refine Sm.i ?_ ?_
  · exact Sm.s (Ru.r ghh)
  · refine Sm.b (Sm.gr ghh gi0) ?_
    rintro k17 k17' gk17
    refine Sm.b (Sm.is ghh gk17) ?_
    intro _ _ _
    refine Sm.b (y_X5_get gk17 ghh) ?_
    rintro v18 _ rfl
    refine Sm.b (Sm.gr ghh gi0) ?_
    rintro k20 k20' gk20
    refine Sm.b (Sm.is ghh gk20) ?_
    intro _ _ _
    refine Sm.b (y_X5_get gk20 ghh) ?_
    rintro v21 _ rfl
    refine Sm.b (Sm.is ghh gi1) ?_
    intro _ _ _
    refine Sm.b (y_X8_looksLike gi1 gi2 ghh) ?_
    rintro v23 _ rfl
    refine Sm.l ?_
    refine Sm.b (Sm.is ghh gi0) ?_
    intro _ _ _
    refine Sm.b (y_X1_compareForests gi0 ghh) ?_
    rintro v26 v26' gv26
    refine Sm.l ?_
    exact Sm.s (Ru.l (Rp.i rfl gv26))
set_option maxHeartbeats 2000000 in
theorem y_X1_compare_b91 {i0 i0' : Nat} {i1 i1' : Nat} {i2 i2' : Nat} {i3 : Int32} {i4 : Int32} {i5 : Int32} {i6 : Int32} (gi0 : (Rr r d) i0 i0') (gi1 : (Rr r d) i1 i1') (gi2 : (Rr r d) i2 i2') : ∀ s s', (Rp Eq (Em r d W0 H0 al)) s s' → Sm (Ru (Rp Eq (Em r d W0 H0 al)) (Em r d W0 H0 al)) (f_X1_compare_b91 i0 i1 i2 i3 i4 i5 i6 s) (f_X1_compare_b91 i0' i1' i2' i3 i4 i5 i6 s') := by
  rintro ⟨y7, hh⟩ ⟨_, hh'⟩ ⟨rfl, ghh⟩
  dsimp only [f_X1_compare_b91]
  refine Sm.i ?_ ?_
  · exact Sm.s (Ru.r ghh)
  · refine Sm.b (Sm.w (y_X1_compare_b101 gi0 gi1 gi2) tq_N (Rp.i rfl ghh)) ?_
    rintro o29 o29' go29
    refine Sm.l ?_
    exact Sm.s (Ru.l (Rp.i rfl go29))
set_option maxHeartbeats 2000000 in
theorem y_X1_compare {t t' : Nat} {a1 a1' : Nat} {a2 a2' : Nat} {a3 : Int32} {a4 : Int32} {h h' : tq_H} (gt : (Rr r d) t t') (ga1 : (Rr r d) a1 a1') (ga2 : (Rr r d) a2 a2') (gh : (Em r d W0 H0 al) h h') : Sm (Em r d W0 H0 al) (f_X1_compare t a1 a2 a3 a4 h) (f_X1_compare t' a1' a2' a3 a4 h') := by
  unfold f_X1_compare
  refine Sm.b (Sm.gr gh gt) ?_
  rintro k1 k1' gk1
  refine Sm.b (Sm.is gh gk1) ?_
  intro _ _ _
  refine Sm.b (y_X5_get gk1 gh) ?_
  rintro v2 _ rfl
  refine Sm.b (Sm.gr gh gt) ?_
  rintro k4 k4' gk4
  refine Sm.b (Sm.is gh gk4) ?_
  intro _ _ _
  refine Sm.b (y_X5_get gk4 gh) ?_
  rintro v5 _ rfl
  refine Sm.b (Sm.w (y_X1_compare_b24 gt ga1 ga2) tq_N (Rp.i rfl gh)) ?_
  rintro o11 o11' go11
  refine Sm.b (Sm.w (y_X1_compare_b58 gt ga1 ga2) tq_N (Rp.i rfl go11)) ?_
  rintro o16 o16' go16
  refine Sm.b (Sm.w (y_X1_compare_b91 gt ga1 ga2) tq_N (Rp.i rfl go16)) ?_
  rintro o31 o31' go31
  exact Sm.s go31
set_option maxHeartbeats 2000000 in
theorem y_X1_count_b80 {i0 i0' : Nat} {i1 i1' : Nat} {i2 i2' : Nat} {i3 : Int32} {i4 : Int32} {i5 : Int64} {i7 : Int64} {i9 : Int32} (gi0 : (Rr r d) i0 i0') (gi1 : (Rr r d) i1 i1') (gi2 : (Rr r d) i2 i2') : ∀ s s', (Rp Eq (Em r d W0 H0 al)) s s' → Sm (Ru (Rp Eq (Em r d W0 H0 al)) (Em r d W0 H0 al)) (f_X1_count_b80 i0 i1 i2 i3 i4 i5 i7 i9 s) (f_X1_count_b80 i0' i1' i2' i3 i4 i5 i7 i9 s') := by
  rintro ⟨y10, hh⟩ ⟨_, hh'⟩ ⟨rfl, ghh⟩
  dsimp only [f_X1_count_b80]
  refine Sm.i ?_ ?_
  · exact Sm.s (Ru.r ghh)
  · refine Sm.b (y_X0_holds ghh) ?_
    rintro v19 _ rfl
    refine Sm.b (R := (Em r d W0 H0 al)) ?_ ?_
    · refine Sm.i ?_ ?_
      · exact Sm.s ghh
      · refine Sm.b (y_X0_holds ghh) ?_
        rintro v20 _ rfl
        refine Sm.i ?_ ?_
        · exact Sm.s ghh
        · refine Sm.b (Sm.is ghh gi0) ?_
          intro _ _ _
          refine Sm.b (y_X1_compare gi0 gi1 gi2 ghh) ?_
          rintro v21 v21' gv21
          exact Sm.s gv21
    · rintro p23 p23' gp23
      refine Sm.l ?_
      exact Sm.s (Ru.l (Rp.i rfl gp23))
set_option maxHeartbeats 2000000 in
theorem y_X1_count_b71 {i0 i0' : Nat} {i1 i1' : Nat} {i2 i2' : Nat} {i3 : Int32} {i4 : Int32} {i5 : Int64} {i7 : Int64} (gi0 : (Rr r d) i0 i0') (gi1 : (Rr r d) i1 i1') (gi2 : (Rr r d) i2 i2') : ∀ s s', (Rp Eq (Em r d W0 H0 al)) s s' → Sm (Ru (Rp Eq (Em r d W0 H0 al)) (Em r d W0 H0 al)) (f_X1_count_b71 i0 i1 i2 i3 i4 i5 i7 s) (f_X1_count_b71 i0' i1' i2' i3 i4 i5 i7 s') := by
  rintro ⟨y9, hh⟩ ⟨_, hh'⟩ ⟨rfl, ghh⟩
  dsimp only [f_X1_count_b71]
  refine Sm.i ?_ ?_
  · exact Sm.s (Ru.r ghh)
  · refine Sm.b (Sm.w (y_X1_count_b80 gi0 gi1 gi2) tq_N (Rp.i rfl ghh)) ?_
    rintro o25 o25' go25
    refine Sm.l ?_
    exact Sm.s (Ru.l (Rp.i rfl go25))
set_option maxHeartbeats 2000000 in
theorem y_X1_count {t t' : Nat} {a1 a1' : Nat} {a2 a2' : Nat} {h h' : tq_H} (gt : (Rr r d) t t') (ga1 : (Rr r d) a1 a1') (ga2 : (Rr r d) a2 a2') (gh : (Em r d W0 H0 al) h h') : Sm (Rp Eq (Em r d W0 H0 al)) (f_X1_count t a1 a2 h) (f_X1_count t' a1' a2' h') := by
  unfold f_X1_count
  refine Sm.b (Sm.gr gh ga1) ?_
  rintro k1 k1' gk1
  refine Sm.b (Sm.gr gh gt) ?_
  rintro k2 k2' gk2
  refine Sm.b (Sm.gr gh gt) ?_
  rintro k3 k3' gk3
  refine Sm.b (y_X1_line gk1 gk2 gk3 gh) ?_
  rintro v4 v4' gv4
  refine Sm.b (Sm.gr gv4 ga2) ?_
  rintro k5 k5' gk5
  refine Sm.b (Sm.gr gv4 gt) ?_
  rintro k6 k6' gk6
  refine Sm.b (Sm.gr gv4 gt) ?_
  rintro k7 k7' gk7
  refine Sm.b (y_X1_line gk5 gk6 gk7 gv4) ?_
  rintro v8 v8' gv8
  refine Sm.b (Sm.gr gv8 ga1) ?_
  rintro k9 k9' gk9
  refine Sm.b (Sm.is gv8 gk9) ?_
  intro _ _ _
  refine Sm.b (y_X3_count gk9 gv8) ?_
  rintro v10 _ rfl
  refine Sm.b (Sm.gr gv8 ga2) ?_
  rintro k12 k12' gk12
  refine Sm.b (Sm.is gv8 gk12) ?_
  intro _ _ _
  refine Sm.b (y_X3_count gk12 gv8) ?_
  rintro v13 _ rfl
  refine Sm.b (Sm.gr gv8 gt) ?_
  rintro k15 k15' gk15
  refine Sm.b (y_X1_outermost gk15 gv8) ?_
  rintro v16 _ rfl
  refine Sm.b (Sm.gr gv8 gt) ?_
  rintro k17 k17' gk17
  refine Sm.b (y_X1_outermost gk17 gv8) ?_
  rintro v18 _ rfl
  refine Sm.b (Sm.w (y_X1_count_b71 gt ga1 ga2) tq_N (Rp.i rfl gv8)) ?_
  rintro o27 o27' go27
  refine Sm.b (Sm.gr go27 gt) ?_
  rintro k28 k28' gk28
  refine Sm.b (Sm.is go27 gk28) ?_
  intro _ _ _
  refine Sm.b (y_X5_get gk28 go27) ?_
  rintro v29 _ rfl
  exact Sm.s (Rp.i rfl go27)
set_option maxHeartbeats 2000000 in
theorem y_X2_init {t t' : Nat} {a1 a1' : Nat} {a2 a2' : Nat} {h h' : tq_H} (ha : al) (gt : (Rr r d) t t') (ga1 : (Rr r d) a1 a1') (ga2 : (Rr r d) a2 a2') (gh : (Em r d W0 H0 al) h h') : Sm (Em r d W0 H0 al) (f_X2_init t a1 a2 h) (f_X2_init t' a1' a2' h') := by
  unfold f_X2_init
  refine Sm.n ha gh (okO_l rfl) (fun w1 w1' gw1 => ?_)
  refine Sm.b (y_X7_init ha (gh.nr ha) gw1) ?_
  rintro v2 v2' gv2
  refine Sm.b (Sm.pf gv2 gt (okV_r (gh.nr ha))) ?_
  rintro w3 w3' gw3
  refine Sm.n ha gw3 (okO_l rfl) (fun w4 w4' gw4 => ?_)
  refine Sm.b (y_X7_init ha (gw3.nr ha) gw4) ?_
  rintro v5 v5' gv5
  refine Sm.b (Sm.pf gv5 gt (okV_r (gw3.nr ha))) ?_
  rintro w6 w6' gw6
  refine Sm.n ha gw6 (okO_l rfl) (fun w7 w7' gw7 => ?_)
  refine Sm.b (y_X5_init ha (gw6.nr ha) gw7) ?_
  rintro v8 v8' gv8
  refine Sm.b (Sm.pf gv8 gt (okV_r (gw6.nr ha))) ?_
  rintro w9 w9' gw9
  refine Sm.b (Sm.pf gw9 gt (okV_l _)) ?_
  rintro w10 w10' gw10
  refine Sm.b (Sm.pf gw10 gt (okV_i _)) ?_
  rintro w11 w11' gw11
  refine Sm.b (Sm.pf gw11 gt (okV_r ga1)) ?_
  rintro w12 w12' gw12
  refine Sm.b (Sm.gr gw12 ga1) ?_
  rintro k13 k13' gk13
  refine Sm.b (Sm.pf gw12 gt (okV_r gk13)) ?_
  rintro w14 w14' gw14
  refine Sm.b (Sm.pf gw14 gt (okV_r ga2)) ?_
  rintro w15 w15' gw15
  exact Sm.s gw15
set_option maxHeartbeats 2000000 in
theorem y_X2_start_b12 {i0 i0' : Nat} (gi0 : (Rr r d) i0 i0') : ∀ s s', (Rp Eq (Em r d W0 H0 al)) s s' → Sm (Ru (Rp Eq (Em r d W0 H0 al)) (Em r d W0 H0 al)) (f_X2_start_b12 i0 s) (f_X2_start_b12 i0' s') := by
  rintro ⟨y3, hh⟩ ⟨_, hh'⟩ ⟨rfl, ghh⟩
  dsimp only [f_X2_start_b12]
  refine Sm.b (Sm.gr ghh gi0) ?_
  rintro k3 k3' gk3
  refine Sm.b (Sm.is ghh gk3) ?_
  intro _ _ _
  refine Sm.b (y_X3_count gk3 ghh) ?_
  rintro v4 _ rfl
  refine Sm.i ?_ ?_
  · exact Sm.s (Ru.r ghh)
  · refine Sm.b (Sm.gr ghh gi0) ?_
    rintro k6 k6' gk6
    refine Sm.b (Sm.gr ghh gi0) ?_
    rintro k7 k7' gk7
    refine Sm.b (Sm.gl ghh gi0) ?_
    rintro x8 _ rfl
    refine Sm.b (Sm.is ghh gk7) ?_
    intro _ _ _
    refine Sm.b (y_X8_valueAt gk7 ghh) ?_
    rintro v9 _ rfl
    refine Sm.b (Sm.is ghh gk6) ?_
    intro _ _ _
    refine Sm.b (y_X5_set gk6 ghh) ?_
    rintro v11 v11' gv11
    refine Sm.l ?_
    exact Sm.s (Ru.l (Rp.i rfl gv11))
set_option maxHeartbeats 2000000 in
theorem y_X2_start {t t' : Nat} {a1 : Int64} {h h' : tq_H} (gt : (Rr r d) t t') (gh : (Em r d W0 H0 al) h h') : Sm (Em r d W0 H0 al) (f_X2_start t a1 h) (f_X2_start t' a1 h') := by
  unfold f_X2_start
  refine Sm.b (Sm.pf gh gt (okV_l _)) ?_
  rintro w1 w1' gw1
  refine Sm.b (Sm.pf gw1 gt (okV_i _)) ?_
  rintro w2 w2' gw2
  refine Sm.b (Sm.w (y_X2_start_b12 gt) tq_N (Rp.i rfl gw2)) ?_
  rintro o14 o14' go14
  exact Sm.s go14
set_option maxHeartbeats 2000000 in
theorem y_X2_dropFrom {t t' : Nat} {a1 : Int32} {h h' : tq_H} (gt : (Rr r d) t t') (gh : (Em r d W0 H0 al) h h') : Sm (Em r d W0 H0 al) (f_X2_dropFrom t a1 h) (f_X2_dropFrom t' a1 h') := by
  unfold f_X2_dropFrom
  refine Sm.b (Sm.gi gh gt) ?_
  rintro x1 _ rfl
  refine Sm.b (Sm.pf gh gt (okV_i _)) ?_
  rintro w2 w2' gw2
  exact Sm.s gw2
set_option maxHeartbeats 2000000 in
theorem y_X2_sees {t t' : Nat} {a1 : Int32} {h h' : tq_H} (gt : (Rr r d) t t') (gh : (Em r d W0 H0 al) h h') : Sm Eq (f_X2_sees t a1 h) (f_X2_sees t' a1 h') := by
  unfold f_X2_sees
  refine Sm.b (Sm.gl gh gt) ?_
  rintro x1 _ rfl
  refine Sm.b (y_X0_holds gh) ?_
  rintro v2 _ rfl
  refine Sm.b (Sm.r) ?_
  rintro z3 _ rfl
  exact Sm.s rfl
set_option maxHeartbeats 2000000 in
theorem y_X2_foundFrom {t t' : Nat} {a1 : Int32} {a2 : Int32} {h h' : tq_H} (gt : (Rr r d) t t') (gh : (Em r d W0 H0 al) h h') : Sm Eq (f_X2_foundFrom t a1 a2 h) (f_X2_foundFrom t' a1 a2 h') := by
  unfold f_X2_foundFrom
  refine Sm.b (Sm.gr gh gt) ?_
  rintro k1 k1' gk1
  refine Sm.b (Sm.is gh gk1) ?_
  intro _ _ _
  refine Sm.b (y_X7_get gk1 gh) ?_
  rintro v2 _ rfl
  exact Sm.s rfl
set_option maxHeartbeats 2000000 in
theorem y_X2_reachByPath_b41 {i0 i0' : Nat} {i2 : Int64} {i4 : Int32} {i5 : Int32} {hh hh' : tq_H} (gi0 : (Rr r d) i0 i0') (ghh : (Em r d W0 H0 al) hh hh') : ∀ s s', (Rp Eq (Rp Eq Eq)) s s' → Sm (Ru (Rp Eq (Rp Eq Eq)) Eq) (f_X2_reachByPath_b41 i0 i2 i4 i5 hh s) (f_X2_reachByPath_b41 i0' i2 i4 i5 hh' s') := by
  rintro ⟨y6, ⟨y8, y10⟩⟩ ⟨_, ⟨_, _⟩⟩ ⟨rfl, ⟨rfl, rfl⟩⟩
  dsimp only [f_X2_reachByPath_b41]
  refine Sm.i ?_ ?_
  · exact Sm.s (Ru.r rfl)
  · refine Sm.i ?_ ?_
    · exact Sm.s (Ru.r rfl)
    · refine Sm.l ?_
      refine Sm.b (Sm.gr ghh gi0) ?_
      rintro k9 k9' gk9
      refine Sm.b (Sm.is ghh gk9) ?_
      intro _ _ _
      refine Sm.b (y_X7_union gk9 ghh) ?_
      rintro v10 _ rfl
      refine Sm.l ?_
      refine Sm.l ?_
      exact Sm.s (Ru.l (Rp.i rfl (Rp.i rfl rfl)))
set_option maxHeartbeats 2000000 in
theorem y_X2_reachByPath_b9 {i0 i0' : Nat} {i2 : Int64} {i4 : Int32} (gi0 : (Rr r d) i0 i0') : ∀ s s', (Rp Eq (Em r d W0 H0 al)) s s' → Sm (Ru (Rp Eq (Em r d W0 H0 al)) (Em r d W0 H0 al)) (f_X2_reachByPath_b9 i0 i2 i4 s) (f_X2_reachByPath_b9 i0' i2 i4 s') := by
  rintro ⟨y5, hh⟩ ⟨_, hh'⟩ ⟨rfl, ghh⟩
  dsimp only [f_X2_reachByPath_b9]
  refine Sm.b (Sm.gr ghh gi0) ?_
  rintro k2 k2' gk2
  refine Sm.b (Sm.is ghh gk2) ?_
  intro _ _ _
  refine Sm.b (y_X3_count gk2 ghh) ?_
  rintro v3 _ rfl
  refine Sm.i ?_ ?_
  · exact Sm.s (Ru.r ghh)
  · refine Sm.b (Sm.gr ghh gi0) ?_
    rintro k5 k5' gk5
    refine Sm.b (Sm.is ghh gk5) ?_
    intro _ _ _
    refine Sm.b (y_X7_get gk5 ghh) ?_
    rintro v6 _ rfl
    refine Sm.b (Sm.w (y_X2_reachByPath_b41 gi0 ghh) tq_N (Rp.i rfl (Rp.i rfl rfl))) ?_
    rintro o14 _ rfl
    refine Sm.b (Sm.gr ghh gi0) ?_
    rintro k15 k15' gk15
    refine Sm.b (Sm.gl ghh gi0) ?_
    rintro x16 _ rfl
    refine Sm.b (Sm.is ghh gk15) ?_
    intro _ _ _
    refine Sm.b (y_X7_set gk15 ghh) ?_
    rintro v17 v17' gv17
    refine Sm.l ?_
    exact Sm.s (Ru.l (Rp.i rfl gv17))
set_option maxHeartbeats 2000000 in
theorem y_X2_reachByPath {t t' : Nat} {a1 : Int32} {a2 : Int64} {h h' : tq_H} (gt : (Rr r d) t t') (gh : (Em r d W0 H0 al) h h') : Sm (Em r d W0 H0 al) (f_X2_reachByPath t a1 a2 h) (f_X2_reachByPath t' a1 a2 h') := by
  unfold f_X2_reachByPath
  refine Sm.l ?_
  refine Sm.b (Sm.w (y_X2_reachByPath_b9 gt) tq_N (Rp.i rfl gh)) ?_
  rintro o20 o20' go20
  exact Sm.s go20
set_option maxHeartbeats 2000000 in
theorem y_X2_reachByAxis_b3 {i0 i0' : Nat} {i1 : Int32} {i2 : Int64} (gi0 : (Rr r d) i0 i0') : ∀ s s', (Rp Eq (Em r d W0 H0 al)) s s' → Sm (Ru (Rp Eq (Em r d W0 H0 al)) (Em r d W0 H0 al)) (f_X2_reachByAxis_b3 i0 i1 i2 s) (f_X2_reachByAxis_b3 i0' i1 i2 s') := by
  rintro ⟨y4, hh⟩ ⟨_, hh'⟩ ⟨rfl, ghh⟩
  dsimp only [f_X2_reachByAxis_b3]
  refine Sm.b (Sm.gr ghh gi0) ?_
  rintro k1 k1' gk1
  refine Sm.b (Sm.is ghh gk1) ?_
  intro _ _ _
  refine Sm.b (y_X3_count gk1 ghh) ?_
  rintro v2 _ rfl
  refine Sm.i ?_ ?_
  · exact Sm.s (Ru.r ghh)
  · refine Sm.b (Sm.gr ghh gi0) ?_
    rintro k4 k4' gk4
    refine Sm.b (Sm.gr ghh gi0) ?_
    rintro k5 k5' gk5
    refine Sm.b (Sm.is ghh gk5) ?_
    intro _ _ _
    refine Sm.b (y_X3_reached gk5 ghh) ?_
    rintro v6 _ rfl
    refine Sm.b (Sm.gl ghh gi0) ?_
    rintro x8 _ rfl
    refine Sm.b (Sm.is ghh gk4) ?_
    intro _ _ _
    refine Sm.b (y_X7_set gk4 ghh) ?_
    rintro v9 v9' gv9
    refine Sm.l ?_
    exact Sm.s (Ru.l (Rp.i rfl gv9))
set_option maxHeartbeats 2000000 in
theorem y_X2_reachByAxis {t t' : Nat} {a1 : Int32} {a2 : Int64} {h h' : tq_H} (gt : (Rr r d) t t') (gh : (Em r d W0 H0 al) h h') : Sm (Em r d W0 H0 al) (f_X2_reachByAxis t a1 a2 h) (f_X2_reachByAxis t' a1 a2 h') := by
  unfold f_X2_reachByAxis
  refine Sm.b (Sm.w (y_X2_reachByAxis_b3 gt) tq_N (Rp.i rfl gh)) ?_
  rintro o12 o12' go12
  exact Sm.s go12
set_option maxHeartbeats 2000000 in
theorem y_X2_goesBack {a0 : Int32} {h h' : tq_H} (gh : (Em r d W0 H0 al) h h') : Sm Eq (f_X2_goesBack a0 h) (f_X2_goesBack a0 h') := by
  unfold f_X2_goesBack
  refine Sm.l ?_
  refine Sm.b (Sm.r) ?_
  rintro z2 _ rfl
  exact Sm.s rfl
set_option maxHeartbeats 2000000 in
theorem y_X2_keepPlaced_b15 {i2 : Int32} {i3 : Int32} {i4 : Int32} {i5 : Int32} {hh hh' : tq_H} (ghh : (Em r d W0 H0 al) hh hh') : ∀ s s', (Rp Eq (Rp Eq Eq)) s s' → Sm (Ru (Rp Eq (Rp Eq Eq)) Eq) (f_X2_keepPlaced_b15 i2 i3 i4 i5 hh s) (f_X2_keepPlaced_b15 i2 i3 i4 i5 hh' s') := by
  rintro ⟨y6, ⟨y8, y10⟩⟩ ⟨_, ⟨_, _⟩⟩ ⟨rfl, ⟨rfl, rfl⟩⟩
  dsimp only [f_X2_keepPlaced_b15]
  refine Sm.i ?_ ?_
  · exact Sm.s (Ru.r rfl)
  · refine Sm.l ?_
    refine Sm.b (y_X0_agrees ghh) ?_
    rintro v3 _ rfl
    refine Sm.b (R := Eq) ?_ ?_
    · refine Sm.i ?_ ?_
      · exact Sm.s rfl
      · refine Sm.l ?_
        exact Sm.s rfl
    · rintro p5 _ rfl
      refine Sm.l ?_
      refine Sm.l ?_
      exact Sm.s (Ru.l (Rp.i rfl (Rp.i rfl rfl)))
set_option maxHeartbeats 2000000 in
theorem y_X2_keepPlaced {a0 : Int64} {a2 : Int32} {a3 : Int32} {a4 : Int32} {h h' : tq_H} (gh : (Em r d W0 H0 al) h h') : Sm Eq (f_X2_keepPlaced a0 a2 a3 a4 h) (f_X2_keepPlaced a0 a2 a3 a4 h') := by
  unfold f_X2_keepPlaced
  refine Sm.b (y_J13_bitCount_95d88 gh) ?_
  rintro v1 _ rfl
  refine Sm.b (Sm.w (y_X2_keepPlaced_b15 gh) tq_N (Rp.i rfl (Rp.i rfl rfl))) ?_
  rintro o8 _ rfl
  exact Sm.s rfl
set_option maxHeartbeats 2000000 in
theorem y_X2_siftByPlace_b21 {i0 i0' : Nat} {i1 : Int32} {i2 : Int32} {i3 : Int32} (gi0 : (Rr r d) i0 i0') : ∀ s s', (Rp Eq (Em r d W0 H0 al)) s s' → Sm (Ru (Rp Eq (Em r d W0 H0 al)) (Em r d W0 H0 al)) (f_X2_siftByPlace_b21 i0 i1 i2 i3 s) (f_X2_siftByPlace_b21 i0' i1 i2 i3 s') := by
  rintro ⟨y4, hh⟩ ⟨_, hh'⟩ ⟨rfl, ghh⟩
  dsimp only [f_X2_siftByPlace_b21]
  refine Sm.b (Sm.gr ghh gi0) ?_
  rintro k5 k5' gk5
  refine Sm.b (Sm.is ghh gk5) ?_
  intro _ _ _
  refine Sm.b (y_X3_count gk5 ghh) ?_
  rintro v6 _ rfl
  refine Sm.i ?_ ?_
  · exact Sm.s (Ru.r ghh)
  · refine Sm.b (Sm.gr ghh gi0) ?_
    rintro k8 k8' gk8
    refine Sm.b (Sm.is ghh gk8) ?_
    intro _ _ _
    refine Sm.b (y_X7_get gk8 ghh) ?_
    rintro v9 _ rfl
    refine Sm.b (R := Eq) ?_ ?_
    · refine Sm.i ?_ ?_
      · refine Sm.b (Sm.gr ghh gi0) ?_
        rintro k11 k11' gk11
        refine Sm.b (Sm.is ghh gk11) ?_
        intro _ _ _
        refine Sm.b (y_X4_comparisonOf gk11 ghh) ?_
        rintro v12 _ rfl
        exact Sm.s rfl
      · exact Sm.s rfl
    · rintro p14 _ rfl
      refine Sm.b (R := Eq) ?_ ?_
      · refine Sm.i ?_ ?_
        · refine Sm.b (Sm.gr ghh gi0) ?_
          rintro k15 k15' gk15
          refine Sm.b (Sm.is ghh gk15) ?_
          intro _ _ _
          refine Sm.b (y_X4_numberOf gk15 ghh) ?_
          rintro v16 _ rfl
          exact Sm.s rfl
        · refine Sm.b (y_J13_bitCount_95d88 ghh) ?_
          rintro v18 _ rfl
          exact Sm.s rfl
      · rintro p19 _ rfl
        refine Sm.b (Sm.gr ghh gi0) ?_
        rintro k20 k20' gk20
        refine Sm.b (y_X2_keepPlaced ghh) ?_
        rintro v21 _ rfl
        refine Sm.b (Sm.is ghh gk20) ?_
        intro _ _ _
        refine Sm.b (y_X7_set gk20 ghh) ?_
        rintro v22 v22' gv22
        refine Sm.l ?_
        exact Sm.s (Ru.l (Rp.i rfl gv22))
set_option maxHeartbeats 2000000 in
theorem y_X2_siftByPlace {t t' : Nat} {a1 : Int32} {a2 : Int32} {h h' : tq_H} (gt : (Rr r d) t t') (gh : (Em r d W0 H0 al) h h') : Sm (Em r d W0 H0 al) (f_X2_siftByPlace t a1 a2 h) (f_X2_siftByPlace t' a1 a2 h') := by
  unfold f_X2_siftByPlace
  refine Sm.b (Sm.gr gh gt) ?_
  rintro k1 k1' gk1
  refine Sm.b (Sm.is gh gk1) ?_
  intro _ _ _
  refine Sm.b (y_X4_whatOf gk1 gh) ?_
  rintro v2 _ rfl
  refine Sm.l ?_
  refine Sm.b (Sm.w (y_X2_siftByPlace_b21 gt) tq_N (Rp.i rfl gh)) ?_
  rintro o25 o25' go25
  exact Sm.s go25
set_option maxHeartbeats 2000000 in
theorem y_X2_worthy_b5 {i0 i0' : Nat} {i1 : Int32} {hh hh' : tq_H} (gi0 : (Rr r d) i0 i0') (ghh : (Em r d W0 H0 al) hh hh') : ∀ s s', (Rp Eq Eq) s s' → Sm (Ru (Rp Eq Eq) Eq) (f_X2_worthy_b5 i0 i1 hh s) (f_X2_worthy_b5 i0' i1 hh' s') := by
  rintro ⟨y2, y4⟩ ⟨_, _⟩ ⟨rfl, rfl⟩
  dsimp only [f_X2_worthy_b5]
  refine Sm.b (Sm.gr ghh gi0) ?_
  rintro k1 k1' gk1
  refine Sm.b (Sm.is ghh gk1) ?_
  intro _ _ _
  refine Sm.b (y_X3_count gk1 ghh) ?_
  rintro v2 _ rfl
  refine Sm.i ?_ ?_
  · exact Sm.s (Ru.r rfl)
  · refine Sm.b (Sm.gr ghh gi0) ?_
    rintro k4 k4' gk4
    refine Sm.b (Sm.is ghh gk4) ?_
    intro _ _ _
    refine Sm.b (y_X5_get gk4 ghh) ?_
    rintro v5 _ rfl
    refine Sm.b (R := Eq) ?_ ?_
    · refine Sm.i ?_ ?_
      · exact Sm.s rfl
      · refine Sm.b (Sm.gr ghh gi0) ?_
        rintro k7 k7' gk7
        refine Sm.b (Sm.is ghh gk7) ?_
        intro _ _ _
        refine Sm.b (y_X4_comparisonOf gk7 ghh) ?_
        rintro v8 _ rfl
        refine Sm.b (Sm.gr ghh gi0) ?_
        rintro k10 k10' gk10
        refine Sm.b (Sm.is ghh gk10) ?_
        intro _ _ _
        refine Sm.b (y_X4_numberOf gk10 ghh) ?_
        rintro v11 _ rfl
        refine Sm.b (y_X0_agrees ghh) ?_
        rintro v13 _ rfl
        refine Sm.i ?_ ?_
        · exact Sm.s rfl
        · refine Sm.b (y_X0_one ghh) ?_
          rintro v14 _ rfl
          refine Sm.l ?_
          exact Sm.s rfl
    · rintro p16 _ rfl
      refine Sm.l ?_
      exact Sm.s (Ru.l (Rp.i rfl rfl))
set_option maxHeartbeats 2000000 in
theorem y_X2_worthy {t t' : Nat} {a1 : Int32} {h h' : tq_H} (gt : (Rr r d) t t') (gh : (Em r d W0 H0 al) h h') : Sm Eq (f_X2_worthy t a1 h) (f_X2_worthy t' a1 h') := by
  unfold f_X2_worthy
  refine Sm.b (Sm.w (y_X2_worthy_b5 gt gh) tq_N (Rp.i rfl rfl)) ?_
  rintro o18 _ rfl
  exact Sm.s rfl
set_option maxHeartbeats 2000000 in
theorem y_X2_siftByTruth_b25 {i0 i0' : Nat} {i1 : Int32} {i2 : Int64} {i4 : Int32} {hh hh' : tq_H} (gi0 : (Rr r d) i0 i0') (ghh : (Em r d W0 H0 al) hh hh') : ∀ s s', (Rp Eq Eq) s s' → Sm (Ru (Rp Eq Eq) Eq) (f_X2_siftByTruth_b25 i0 i1 i2 i4 hh s) (f_X2_siftByTruth_b25 i0' i1 i2 i4 hh' s') := by
  rintro ⟨y5, y7⟩ ⟨_, _⟩ ⟨rfl, rfl⟩
  dsimp only [f_X2_siftByTruth_b25]
  refine Sm.b (Sm.gr ghh gi0) ?_
  rintro k5 k5' gk5
  refine Sm.b (Sm.is ghh gk5) ?_
  intro _ _ _
  refine Sm.b (y_X3_count gk5 ghh) ?_
  rintro v6 _ rfl
  refine Sm.i ?_ ?_
  · exact Sm.s (Ru.r rfl)
  · refine Sm.b (Sm.gr ghh gi0) ?_
    rintro k8 k8' gk8
    refine Sm.b (Sm.gr ghh gi0) ?_
    rintro k9 k9' gk9
    refine Sm.b (Sm.is ghh gk9) ?_
    intro _ _ _
    refine Sm.b (y_X4_otherOf gk9 ghh) ?_
    rintro v10 _ rfl
    refine Sm.b (Sm.is ghh gk8) ?_
    intro _ _ _
    refine Sm.b (y_X7_get gk8 ghh) ?_
    rintro v12 _ rfl
    refine Sm.l ?_
    refine Sm.b (R := Eq) ?_ ?_
    · refine Sm.i ?_ ?_
      · refine Sm.b (y_X0_one ghh) ?_
        rintro v15 _ rfl
        exact Sm.s rfl
      · exact Sm.s rfl
    · rintro p16 _ rfl
      refine Sm.l ?_
      refine Sm.l ?_
      exact Sm.s (Ru.l (Rp.i rfl rfl))
set_option maxHeartbeats 2000000 in
theorem y_X2_siftByTruth_b102 {i0 i0' : Nat} {i5 : Int64} (gi0 : (Rr r d) i0 i0') : ∀ s s', (Rp Eq (Em r d W0 H0 al)) s s' → Sm (Ru (Rp Eq (Em r d W0 H0 al)) (Em r d W0 H0 al)) (f_X2_siftByTruth_b102 i0 i5 s) (f_X2_siftByTruth_b102 i0' i5 s') := by
  rintro ⟨y7, hh⟩ ⟨_, hh'⟩ ⟨rfl, ghh⟩
  dsimp only [f_X2_siftByTruth_b102]
  refine Sm.b (Sm.gr ghh gi0) ?_
  rintro k20 k20' gk20
  refine Sm.b (Sm.is ghh gk20) ?_
  intro _ _ _
  refine Sm.b (y_X3_count gk20 ghh) ?_
  rintro v21 _ rfl
  refine Sm.i ?_ ?_
  · exact Sm.s (Ru.r ghh)
  · refine Sm.b (Sm.gr ghh gi0) ?_
    rintro k23 k23' gk23
    refine Sm.b (Sm.gr ghh gi0) ?_
    rintro k24 k24' gk24
    refine Sm.b (Sm.is ghh gk24) ?_
    intro _ _ _
    refine Sm.b (y_X7_get gk24 ghh) ?_
    rintro v25 _ rfl
    refine Sm.b (Sm.is ghh gk23) ?_
    intro _ _ _
    refine Sm.b (y_X7_set gk23 ghh) ?_
    rintro v27 v27' gv27
    refine Sm.l ?_
    exact Sm.s (Ru.l (Rp.i rfl gv27))
set_option maxHeartbeats 2000000 in
theorem y_X2_siftByTruth {t t' : Nat} {a1 : Int32} {a2 : Int64} {h h' : tq_H} (gt : (Rr r d) t t') (gh : (Em r d W0 H0 al) h h') : Sm (Em r d W0 H0 al) (f_X2_siftByTruth t a1 a2 h) (f_X2_siftByTruth t' a1 a2 h') := by
  unfold f_X2_siftByTruth
  refine Sm.b (Sm.gr gh gt) ?_
  rintro k1 k1' gk1
  refine Sm.b (Sm.is gh gk1) ?_
  intro _ _ _
  refine Sm.b (y_X4_whatOf gk1 gh) ?_
  rintro v2 _ rfl
  refine Sm.l ?_
  refine Sm.b (Sm.w (y_X2_siftByTruth_b25 gt gh) tq_N (Rp.i rfl rfl)) ?_
  rintro o19 _ rfl
  refine Sm.b (Sm.w (y_X2_siftByTruth_b102 gt) tq_N (Rp.i rfl gh)) ?_
  rintro o30 o30' go30
  exact Sm.s go30
set_option maxHeartbeats 2000000 in
theorem y_X2_takeStep_b68 {i0 i0' : Nat} {i1 : Int32} {i2 : Int32} {i3 : Int32} (gi0 : (Rr r d) i0 i0') : ∀ s s', (Rp Eq (Em r d W0 H0 al)) s s' → Sm (Ru (Rp Eq (Em r d W0 H0 al)) (Em r d W0 H0 al)) (f_X2_takeStep_b68 i0 i1 i2 i3 s) (f_X2_takeStep_b68 i0' i1 i2 i3 s') := by
  rintro ⟨y4, hh⟩ ⟨_, hh'⟩ ⟨rfl, ghh⟩
  dsimp only [f_X2_takeStep_b68]
  refine Sm.b (Sm.gr ghh gi0) ?_
  rintro k24 k24' gk24
  refine Sm.b (Sm.is ghh gk24) ?_
  intro _ _ _
  refine Sm.b (y_X4_conditionsOf gk24 ghh) ?_
  rintro v25 _ rfl
  refine Sm.i ?_ ?_
  · exact Sm.s (Ru.r ghh)
  · refine Sm.b (Sm.gr ghh gi0) ?_
    rintro k27 k27' gk27
    refine Sm.b (Sm.is ghh gk27) ?_
    intro _ _ _
    refine Sm.b (y_X4_conditionAt gk27 ghh) ?_
    rintro v28 _ rfl
    refine Sm.b (Sm.gr ghh gi0) ?_
    rintro k30 k30' gk30
    refine Sm.b (Sm.is ghh gk30) ?_
    intro _ _ _
    refine Sm.b (y_X4_whatOf gk30 ghh) ?_
    rintro v31 _ rfl
    refine Sm.b (R := (Em r d W0 H0 al)) ?_ ?_
    · refine Sm.i ?_ ?_
      · refine Sm.b (y_X2_goesBack ghh) ?_
        rintro v33 _ rfl
        refine Sm.b (Sm.is ghh gi0) ?_
        intro _ _ _
        refine Sm.b (y_X2_siftByPlace gi0 ghh) ?_
        rintro v34 v34' gv34
        exact Sm.s gv34
      · refine Sm.i ?_ ?_
        · refine Sm.b (y_X2_goesBack ghh) ?_
          rintro v41 _ rfl
          refine Sm.b (Sm.is ghh gi0) ?_
          intro _ _ _
          refine Sm.b (y_X2_siftByPlace gi0 ghh) ?_
          rintro v42 v42' gv42
          exact Sm.s gv42
        · refine Sm.b (R := Eq) ?_ ?_
          · refine Sm.i ?_ ?_
            · refine Sm.b (Sm.is ghh gi0) ?_
              intro _ _ _
              refine Sm.b (y_X2_worthy gi0 ghh) ?_
              rintro v36 _ rfl
              exact Sm.s rfl
            · exact Sm.s rfl
          · rintro p38 _ rfl
            refine Sm.b (Sm.is ghh gi0) ?_
            intro _ _ _
            refine Sm.b (y_X2_siftByTruth gi0 ghh) ?_
            rintro v39 v39' gv39
            exact Sm.s gv39
    · rintro p44 p44' gp44
      refine Sm.l ?_
      exact Sm.s (Ru.l (Rp.i rfl gp44))
set_option maxHeartbeats 2000000 in
theorem y_X2_takeStep_b161 {i0 i0' : Nat} {i1 : Int32} (gi0 : (Rr r d) i0 i0') : ∀ s s', (Rp Eq (Em r d W0 H0 al)) s s' → Sm (Ru (Rp Eq (Em r d W0 H0 al)) (Em r d W0 H0 al)) (f_X2_takeStep_b161 i0 i1 s) (f_X2_takeStep_b161 i0' i1 s') := by
  rintro ⟨y4, hh⟩ ⟨_, hh'⟩ ⟨rfl, ghh⟩
  dsimp only [f_X2_takeStep_b161]
  refine Sm.b (Sm.gr ghh gi0) ?_
  rintro k47 k47' gk47
  refine Sm.b (Sm.is ghh gk47) ?_
  intro _ _ _
  refine Sm.b (y_X3_count gk47 ghh) ?_
  rintro v48 _ rfl
  refine Sm.i ?_ ?_
  · exact Sm.s (Ru.r ghh)
  · refine Sm.l ?_
    refine Sm.b (Sm.gr ghh gi0) ?_
    rintro k51 k51' gk51
    refine Sm.b (Sm.gr ghh gi0) ?_
    rintro k52 k52' gk52
    refine Sm.b (Sm.gr ghh gi0) ?_
    rintro k53 k53' gk53
    refine Sm.b (Sm.is ghh gk53) ?_
    intro _ _ _
    refine Sm.b (y_X7_get gk53 ghh) ?_
    rintro v54 _ rfl
    refine Sm.b (Sm.is ghh gk52) ?_
    intro _ _ _
    refine Sm.b (y_X7_union gk52 ghh) ?_
    rintro v56 _ rfl
    refine Sm.b (Sm.is ghh gk51) ?_
    intro _ _ _
    refine Sm.b (y_X7_set gk51 ghh) ?_
    rintro v58 v58' gv58
    refine Sm.l ?_
    exact Sm.s (Ru.l (Rp.i rfl gv58))
set_option maxHeartbeats 2000000 in
theorem y_X2_takeStep {t t' : Nat} {a1 : Int32} {a2 : Int32} {h h' : tq_H} (gt : (Rr r d) t t') (gh : (Em r d W0 H0 al) h h') : Sm (Em r d W0 H0 al) (f_X2_takeStep t a1 a2 h) (f_X2_takeStep t' a1 a2 h') := by
  unfold f_X2_takeStep
  refine Sm.b (Sm.gr gh gt) ?_
  rintro k1 k1' gk1
  refine Sm.b (Sm.is gh gk1) ?_
  intro _ _ _
  refine Sm.b (y_X4_axisOf gk1 gh) ?_
  rintro v2 _ rfl
  refine Sm.b (R := (Em r d W0 H0 al)) ?_ ?_
  · refine Sm.i ?_ ?_
    · refine Sm.b (Sm.gr gh gt) ?_
      rintro k12 k12' gk12
      refine Sm.b (Sm.is gh gk12) ?_
      intro _ _ _
      refine Sm.b (y_X4_repeatOf gk12 gh) ?_
      rintro v13 _ rfl
      refine Sm.b (Sm.gr gh gt) ?_
      rintro k15 k15' gk15
      refine Sm.b (Sm.gr gh gt) ?_
      rintro k16 k16' gk16
      refine Sm.b (Sm.is gh gk16) ?_
      intro _ _ _
      refine Sm.b (y_X4_testOf gk16 gh) ?_
      rintro v17 _ rfl
      refine Sm.b (Sm.is gh gk15) ?_
      intro _ _ _
      refine Sm.b (y_X3_passing gk15 gh) ?_
      rintro v19 _ rfl
      refine Sm.b (Sm.is gh gt) ?_
      intro _ _ _
      refine Sm.b (y_X2_reachByPath gt gh) ?_
      rintro v21 v21' gv21
      exact Sm.s gv21
    · refine Sm.b (Sm.gr gh gt) ?_
      rintro k4 k4' gk4
      refine Sm.b (Sm.gr gh gt) ?_
      rintro k5 k5' gk5
      refine Sm.b (Sm.is gh gk5) ?_
      intro _ _ _
      refine Sm.b (y_X4_testOf gk5 gh) ?_
      rintro v6 _ rfl
      refine Sm.b (Sm.is gh gk4) ?_
      intro _ _ _
      refine Sm.b (y_X3_passing gk4 gh) ?_
      rintro v8 _ rfl
      refine Sm.b (Sm.is gh gt) ?_
      intro _ _ _
      refine Sm.b (y_X2_reachByAxis gt gh) ?_
      rintro v10 v10' gv10
      exact Sm.s gv10
  · rintro p23 p23' gp23
    refine Sm.b (Sm.w (y_X2_takeStep_b68 gt) tq_N (Rp.i rfl gp23)) ?_
    rintro o46 o46' go46
    refine Sm.b (Sm.w (y_X2_takeStep_b161 gt) tq_N (Rp.i rfl go46)) ?_
    rintro o61 o61' go61
    exact Sm.s go61
set_option maxHeartbeats 2000000 in
theorem y_X2_prepare_b12 {i0 i0' : Nat} {i1 : Int32} {i2 : Int32} (gi0 : (Rr r d) i0 i0') : ∀ s s', (Rp Eq (Em r d W0 H0 al)) s s' → Sm (Ru (Rp Eq (Em r d W0 H0 al)) (Em r d W0 H0 al)) (f_X2_prepare_b12 i0 i1 i2 s) (f_X2_prepare_b12 i0' i1 i2 s') := by
  rintro ⟨y3, hh⟩ ⟨_, hh'⟩ ⟨rfl, ghh⟩
  dsimp only [f_X2_prepare_b12]
  refine Sm.b (Sm.gr ghh gi0) ?_
  rintro k2 k2' gk2
  refine Sm.b (Sm.is ghh gk2) ?_
  intro _ _ _
  refine Sm.b (y_X3_count gk2 ghh) ?_
  rintro v3 _ rfl
  refine Sm.i ?_ ?_
  · exact Sm.s (Ru.r ghh)
  · refine Sm.b (Sm.gr ghh gi0) ?_
    rintro k5 k5' gk5
    refine Sm.b (Sm.gl ghh gi0) ?_
    rintro x6 _ rfl
    refine Sm.b (y_X0_one ghh) ?_
    rintro v7 _ rfl
    refine Sm.b (Sm.is ghh gk5) ?_
    intro _ _ _
    refine Sm.b (y_X7_set gk5 ghh) ?_
    rintro v8 v8' gv8
    refine Sm.l ?_
    exact Sm.s (Ru.l (Rp.i rfl gv8))
set_option maxHeartbeats 2000000 in
theorem y_X2_prepare_b53 {i0 i0' : Nat} {i1 : Int32} {i2 : Int32} (gi0 : (Rr r d) i0 i0') : ∀ s s', (Rp Eq (Em r d W0 H0 al)) s s' → Sm (Ru (Rp Eq (Em r d W0 H0 al)) (Em r d W0 H0 al)) (f_X2_prepare_b53 i0 i1 i2 s) (f_X2_prepare_b53 i0' i1 i2 s') := by
  rintro ⟨y3, hh⟩ ⟨_, hh'⟩ ⟨rfl, ghh⟩
  dsimp only [f_X2_prepare_b53]
  refine Sm.b (Sm.gr ghh gi0) ?_
  rintro k12 k12' gk12
  refine Sm.b (Sm.is ghh gk12) ?_
  intro _ _ _
  refine Sm.b (y_X4_stepsOf gk12 ghh) ?_
  rintro v13 _ rfl
  refine Sm.i ?_ ?_
  · exact Sm.s (Ru.r ghh)
  · refine Sm.b (Sm.gr ghh gi0) ?_
    rintro k15 k15' gk15
    refine Sm.b (Sm.is ghh gk15) ?_
    intro _ _ _
    refine Sm.b (y_X4_stepAt gk15 ghh) ?_
    rintro v16 _ rfl
    refine Sm.b (Sm.is ghh gi0) ?_
    intro _ _ _
    refine Sm.b (y_X2_takeStep gi0 ghh) ?_
    rintro v18 v18' gv18
    refine Sm.l ?_
    exact Sm.s (Ru.l (Rp.i rfl gv18))
set_option maxHeartbeats 2000000 in
theorem y_X2_prepare_b5 {i0 i0' : Nat} {i1 : Int32} (gi0 : (Rr r d) i0 i0') : ∀ s s', (Rp Eq (Em r d W0 H0 al)) s s' → Sm (Ru (Rp Eq (Em r d W0 H0 al)) (Em r d W0 H0 al)) (f_X2_prepare_b5 i0 i1 s) (f_X2_prepare_b5 i0' i1 s') := by
  rintro ⟨y2, hh⟩ ⟨_, hh'⟩ ⟨rfl, ghh⟩
  dsimp only [f_X2_prepare_b5]
  refine Sm.i ?_ ?_
  · exact Sm.s (Ru.r ghh)
  · refine Sm.b (Sm.w (y_X2_prepare_b12 gi0) tq_N (Rp.i rfl ghh)) ?_
    rintro o11 o11' go11
    refine Sm.b (Sm.w (y_X2_prepare_b53 gi0) tq_N (Rp.i rfl go11)) ?_
    rintro o21 o21' go21
    refine Sm.l ?_
    exact Sm.s (Ru.l (Rp.i rfl go21))
set_option maxHeartbeats 2000000 in
theorem y_X2_prepare {t t' : Nat} {a1 : Int32} {h h' : tq_H} (gt : (Rr r d) t t') (gh : (Em r d W0 H0 al) h h') : Sm (Em r d W0 H0 al) (f_X2_prepare t a1 h) (f_X2_prepare t' a1 h') := by
  unfold f_X2_prepare
  refine Sm.b (Sm.gi gh gt) ?_
  rintro x1 _ rfl
  refine Sm.b (Sm.w (y_X2_prepare_b5 gt) tq_N (Rp.i rfl gh)) ?_
  rintro o23 o23' go23
  refine Sm.b (Sm.gi go23 gt) ?_
  rintro x24 _ rfl
  refine Sm.b (Sm.pf go23 gt (okV_i _)) ?_
  rintro w25 w25' gw25
  exact Sm.s gw25
set_option maxHeartbeats 2000000 in
theorem y_X2_countAhead_b12 {i0 i0' : Nat} {i3 : Int32} {hh hh' : tq_H} (gi0 : (Rr r d) i0 i0') (ghh : (Em r d W0 H0 al) hh hh') : ∀ s s', (Rp Eq (Rp Eq Eq)) s s' → Sm (Ru (Rp Eq (Rp Eq Eq)) Eq) (f_X2_countAhead_b12 i0 i3 hh s) (f_X2_countAhead_b12 i0' i3 hh' s') := by
  rintro ⟨y4, ⟨y5, y7⟩⟩ ⟨_, ⟨_, _⟩⟩ ⟨rfl, ⟨rfl, rfl⟩⟩
  dsimp only [f_X2_countAhead_b12]
  refine Sm.i ?_ ?_
  · exact Sm.s (Ru.r rfl)
  · refine Sm.b (y_X0_lowest ghh) ?_
    rintro v2 _ rfl
    refine Sm.b (Sm.gr ghh gi0) ?_
    rintro k3 k3' gk3
    refine Sm.b (Sm.is ghh gk3) ?_
    intro _ _ _
    refine Sm.b (y_X5_get gk3 ghh) ?_
    rintro v4 _ rfl
    refine Sm.b (Sm.gr ghh gi0) ?_
    rintro k6 k6' gk6
    refine Sm.b (Sm.is ghh gk6) ?_
    intro _ _ _
    refine Sm.b (y_X5_get gk6 ghh) ?_
    rintro v7 _ rfl
    refine Sm.l ?_
    refine Sm.l ?_
    refine Sm.l ?_
    refine Sm.l ?_
    refine Sm.l ?_
    exact Sm.s (Ru.l (Rp.i rfl (Rp.i rfl rfl)))
set_option maxHeartbeats 2000000 in
theorem y_X2_countAhead {t t' : Nat} {a1 : Int64} {a3 : Int32} {h h' : tq_H} (gt : (Rr r d) t t') (gh : (Em r d W0 H0 al) h h') : Sm Eq (f_X2_countAhead t a1 a3 h) (f_X2_countAhead t' a1 a3 h') := by
  unfold f_X2_countAhead
  refine Sm.b (y_J13_bitCount_95d88 gh) ?_
  rintro v1 _ rfl
  refine Sm.b (Sm.w (y_X2_countAhead_b12 gt gh) tq_N (Rp.i rfl (Rp.i rfl rfl))) ?_
  rintro o14 _ rfl
  exact Sm.s rfl
set_option maxHeartbeats 2000000 in
theorem y_X2_orderedSpot_b10 {i0 i0' : Nat} {i2 : Int32} {i3 : Int64} {hh hh' : tq_H} (gi0 : (Rr r d) i0 i0') (ghh : (Em r d W0 H0 al) hh hh') : ∀ s s', Eq s s' → Sm (Ru Eq (Ru Eq Eq)) (f_X2_orderedSpot_b10 i0 i2 i3 hh s) (f_X2_orderedSpot_b10 i0' i2 i3 hh' s') := by
  rintro y5 _ rfl
  dsimp only [f_X2_orderedSpot_b10]
  refine Sm.b (Sm.gr ghh gi0) ?_
  rintro k3 k3' gk3
  refine Sm.b (Sm.is ghh gk3) ?_
  intro _ _ _
  refine Sm.b (y_X3_count gk3 ghh) ?_
  rintro v4 _ rfl
  refine Sm.i ?_ ?_
  · exact Sm.s (Ru.r (Ru.l rfl))
  · refine Sm.b (y_X0_holds ghh) ?_
    rintro v6 _ rfl
    refine Sm.i ?_ ?_
    · refine Sm.l ?_
      exact Sm.s (Ru.l rfl)
    · refine Sm.b (Sm.is ghh gi0) ?_
      intro _ _ _
      refine Sm.b (y_X2_countAhead gi0 ghh) ?_
      rintro v8 _ rfl
      refine Sm.i ?_ ?_
      · exact Sm.s (Ru.r (Ru.r rfl))
      · refine Sm.l ?_
        exact Sm.s (Ru.l rfl)
set_option maxHeartbeats 2000000 in
theorem y_X2_orderedSpot {t t' : Nat} {a1 : Int32} {a2 : Int32} {h h' : tq_H} (gt : (Rr r d) t t') (gh : (Em r d W0 H0 al) h h') : Sm Eq (f_X2_orderedSpot t a1 a2 h) (f_X2_orderedSpot t' a1 a2 h') := by
  unfold f_X2_orderedSpot
  refine Sm.b (Sm.is gh gt) ?_
  intro _ _ _
  refine Sm.b (y_X2_foundFrom gt gh) ?_
  rintro v1 _ rfl
  refine Sm.u (Sm.w (y_X2_orderedSpot_b10 gt gh) tq_N rfl) ?_ ?_
  · rintro o11 _ rfl
    exact Sm.s rfl
  · rintro e9 _ rfl
    exact Sm.s rfl
set_option maxHeartbeats 2000000 in
theorem y_X2_isFirstOfValue_b3 {i0 i0' : Nat} {i1 : Int64} {i3 : Int32} {hh hh' : tq_H} (gi0 : (Rr r d) i0 i0') (ghh : (Em r d W0 H0 al) hh hh') : ∀ s s', Eq s s' → Sm (Ru Eq (Ru Eq Eq)) (f_X2_isFirstOfValue_b3 i0 i1 i3 hh s) (f_X2_isFirstOfValue_b3 i0' i1 i3 hh' s') := by
  rintro y4 _ rfl
  dsimp only [f_X2_isFirstOfValue_b3]
  refine Sm.i ?_ ?_
  · exact Sm.s (Ru.r (Ru.l rfl))
  · refine Sm.b (y_X0_holds ghh) ?_
    rintro v1 _ rfl
    refine Sm.i ?_ ?_
    · refine Sm.l ?_
      exact Sm.s (Ru.l rfl)
    · refine Sm.b (Sm.gr ghh gi0) ?_
      rintro k3 k3' gk3
      refine Sm.b (Sm.is ghh gk3) ?_
      intro _ _ _
      refine Sm.b (y_X5_get gk3 ghh) ?_
      rintro v4 _ rfl
      refine Sm.b (Sm.gr ghh gi0) ?_
      rintro k6 k6' gk6
      refine Sm.b (Sm.is ghh gk6) ?_
      intro _ _ _
      refine Sm.b (y_X5_get gk6 ghh) ?_
      rintro v7 _ rfl
      refine Sm.i ?_ ?_
      · exact Sm.s (Ru.r (Ru.r rfl))
      · refine Sm.l ?_
        exact Sm.s (Ru.l rfl)
set_option maxHeartbeats 2000000 in
theorem y_X2_isFirstOfValue {t t' : Nat} {a1 : Int64} {a3 : Int32} {h h' : tq_H} (gt : (Rr r d) t t') (gh : (Em r d W0 H0 al) h h') : Sm Eq (f_X2_isFirstOfValue t a1 a3 h) (f_X2_isFirstOfValue t' a1 a3 h') := by
  unfold f_X2_isFirstOfValue
  refine Sm.u (Sm.w (y_X2_isFirstOfValue_b3 gt gh) tq_N rfl) ?_ ?_
  · rintro o10 _ rfl
    exact Sm.s rfl
  · rintro e9 _ rfl
    exact Sm.s rfl
set_option maxHeartbeats 2000000 in
theorem y_X2_countValues_b13 {i0 i0' : Nat} {i2 : Int64} {hh hh' : tq_H} (gi0 : (Rr r d) i0 i0') (ghh : (Em r d W0 H0 al) hh hh') : ∀ s s', (Rp Eq Eq) s s' → Sm (Ru (Rp Eq Eq) Eq) (f_X2_countValues_b13 i0 i2 hh s) (f_X2_countValues_b13 i0' i2 hh' s') := by
  rintro ⟨y4, y5⟩ ⟨_, _⟩ ⟨rfl, rfl⟩
  dsimp only [f_X2_countValues_b13]
  refine Sm.b (Sm.gr ghh gi0) ?_
  rintro k3 k3' gk3
  refine Sm.b (Sm.is ghh gk3) ?_
  intro _ _ _
  refine Sm.b (y_X3_count gk3 ghh) ?_
  rintro v4 _ rfl
  refine Sm.i ?_ ?_
  · exact Sm.s (Ru.r rfl)
  · refine Sm.b (y_X0_holds ghh) ?_
    rintro v6 _ rfl
    refine Sm.b (R := Eq) ?_ ?_
    · refine Sm.i ?_ ?_
      · exact Sm.s rfl
      · refine Sm.b (Sm.is ghh gi0) ?_
        intro _ _ _
        refine Sm.b (y_X2_isFirstOfValue gi0 ghh) ?_
        rintro v7 _ rfl
        refine Sm.i ?_ ?_
        · exact Sm.s rfl
        · refine Sm.l ?_
          exact Sm.s rfl
    · rintro p10 _ rfl
      refine Sm.l ?_
      exact Sm.s (Ru.l (Rp.i rfl rfl))
set_option maxHeartbeats 2000000 in
theorem y_X2_countValues {t t' : Nat} {a1 : Int32} {h h' : tq_H} (gt : (Rr r d) t t') (gh : (Em r d W0 H0 al) h h') : Sm Eq (f_X2_countValues t a1 h) (f_X2_countValues t' a1 h') := by
  unfold f_X2_countValues
  refine Sm.b (Sm.is gh gt) ?_
  intro _ _ _
  refine Sm.b (y_X2_foundFrom gt gh) ?_
  rintro v1 _ rfl
  refine Sm.b (Sm.w (y_X2_countValues_b13 gt gh) tq_N (Rp.i rfl rfl)) ?_
  rintro o12 _ rfl
  exact Sm.s rfl
set_option maxHeartbeats 2000000 in
theorem y_X6_init {t t' : Nat} {h h' : tq_H} (ha : al) (gt : (Rr r d) t t') (gh : (Em r d W0 H0 al) h h') : Sm (Em r d W0 H0 al) (f_X6_init t h) (f_X6_init t' h') := by
  unfold f_X6_init
  refine Sm.n ha gh (okO_l rfl) (fun w1 w1' gw1 => ?_)
  refine Sm.b (y_X5_init ha (gh.nr ha) gw1) ?_
  rintro v2 v2' gv2
  refine Sm.b (Sm.pf gv2 gt (okV_r (gh.nr ha))) ?_
  rintro w3 w3' gw3
  refine Sm.n ha gw3 (okO_l rfl) (fun w4 w4' gw4 => ?_)
  refine Sm.b (y_X5_init ha (gw3.nr ha) gw4) ?_
  rintro v5 v5' gv5
  refine Sm.b (Sm.pf gv5 gt (okV_r (gw3.nr ha))) ?_
  rintro w6 w6' gw6
  refine Sm.n ha gw6 (okO_l rfl) (fun w7 w7' gw7 => ?_)
  refine Sm.b (y_X5_init ha (gw6.nr ha) gw7) ?_
  rintro v8 v8' gv8
  refine Sm.b (Sm.pf gv8 gt (okV_r (gw6.nr ha))) ?_
  rintro w9 w9' gw9
  refine Sm.n ha gw9 (okO_l rfl) (fun w10 w10' gw10 => ?_)
  refine Sm.b (y_X5_init ha (gw9.nr ha) gw10) ?_
  rintro v11 v11' gv11
  refine Sm.b (Sm.pf gv11 gt (okV_r (gw9.nr ha))) ?_
  rintro w12 w12' gw12
  refine Sm.n ha gw12 (okO_l rfl) (fun w13 w13' gw13 => ?_)
  refine Sm.b (y_X5_init ha (gw12.nr ha) gw13) ?_
  rintro v14 v14' gv14
  refine Sm.b (Sm.pf gv14 gt (okV_r (gw12.nr ha))) ?_
  rintro w15 w15' gw15
  refine Sm.n ha gw15 (okO_l rfl) (fun w16 w16' gw16 => ?_)
  refine Sm.b (y_X5_init ha (gw15.nr ha) gw16) ?_
  rintro v17 v17' gv17
  refine Sm.b (Sm.pf gv17 gt (okV_r (gw15.nr ha))) ?_
  rintro w18 w18' gw18
  refine Sm.n ha gw18 (okO_l rfl) (fun w19 w19' gw19 => ?_)
  refine Sm.b (y_X5_init ha (gw18.nr ha) gw19) ?_
  rintro v20 v20' gv20
  refine Sm.b (Sm.pf gv20 gt (okV_r (gw18.nr ha))) ?_
  rintro w21 w21' gw21
  refine Sm.n ha gw21 (okO_l rfl) (fun w22 w22' gw22 => ?_)
  refine Sm.b (y_X5_init ha (gw21.nr ha) gw22) ?_
  rintro v23 v23' gv23
  refine Sm.b (Sm.pf gv23 gt (okV_r (gw21.nr ha))) ?_
  rintro w24 w24' gw24
  refine Sm.b (Sm.pf gw24 gt (okV_i _)) ?_
  rintro w25 w25' gw25
  refine Sm.b (Sm.pf gw25 gt (okV_i _)) ?_
  rintro w26 w26' gw26
  refine Sm.b (Sm.pf gw26 gt (okV_i _)) ?_
  rintro w27 w27' gw27
  exact Sm.s gw27
set_option maxHeartbeats 2000000 in
theorem y_X6_isStrict {t t' : Nat} {h h' : tq_H} (gt : (Rr r d) t t') (gh : (Em r d W0 H0 al) h h') : Sm Eq (f_X6_isStrict t h) (f_X6_isStrict t' h') := by
  unfold f_X6_isStrict
  refine Sm.b (Sm.gi gh gt) ?_
  rintro x1 _ rfl
  refine Sm.b (Sm.r) ?_
  rintro z2 _ rfl
  exact Sm.s rfl
set_option maxHeartbeats 2000000 in
theorem y_X6_markStrict {t t' : Nat} {a1 : Int32} {h h' : tq_H} (gt : (Rr r d) t t') (gh : (Em r d W0 H0 al) h h') : Sm (Rp Eq (Em r d W0 H0 al)) (f_X6_markStrict t a1 h) (f_X6_markStrict t' a1 h') := by
  unfold f_X6_markStrict
  refine Sm.b (Sm.gi gh gt) ?_
  rintro x1 _ rfl
  refine Sm.b (Sm.r) ?_
  rintro z3 _ rfl
  refine Sm.b (Sm.pf gh gt (okV_i _)) ?_
  rintro w2 w2' gw2
  refine Sm.b (Sm.r) ?_
  rintro z4 _ rfl
  exact Sm.s (Rp.i rfl gw2)
set_option maxHeartbeats 2000000 in
theorem y_X6_giveName {t t' : Nat} {a1 : Int32} {a2 : Int32} {h h' : tq_H} (gt : (Rr r d) t t') (gh : (Em r d W0 H0 al) h h') : Sm (Rp Eq (Em r d W0 H0 al)) (f_X6_giveName t a1 a2 h) (f_X6_giveName t' a1 a2 h') := by
  unfold f_X6_giveName
  refine Sm.b (Sm.gr gh gt) ?_
  rintro k1 k1' gk1
  refine Sm.b (Sm.is gh gk1) ?_
  intro _ _ _
  refine Sm.b (y_X5_get gk1 gh) ?_
  rintro v2 _ rfl
  refine Sm.b (Sm.gr gh gt) ?_
  rintro k4 k4' gk4
  refine Sm.b (Sm.is gh gk4) ?_
  intro _ _ _
  refine Sm.b (y_X5_set gk4 gh) ?_
  rintro v5 v5' gv5
  exact Sm.s (Rp.i rfl gv5)
set_option maxHeartbeats 2000000 in
theorem y_X6_arcAt {a0 : Int32} {a1 : Int32} {a2 : Int32} {h h' : tq_H} (gh : (Em r d W0 H0 al) h h') : Sm Eq (f_X6_arcAt a0 a1 a2 h) (f_X6_arcAt a0 a1 a2 h') := by
  unfold f_X6_arcAt
  exact Sm.s rfl
set_option maxHeartbeats 2000000 in
theorem y_X6_toggleArc {t t' : Nat} {a1 : Int32} {a2 : Int32} {a3 : Int32} {a4 : Int32} {h h' : tq_H} (gt : (Rr r d) t t') (gh : (Em r d W0 H0 al) h h') : Sm (Rp Eq (Em r d W0 H0 al)) (f_X6_toggleArc t a1 a2 a3 a4 h) (f_X6_toggleArc t' a1 a2 a3 a4 h') := by
  unfold f_X6_toggleArc
  refine Sm.b (y_X6_arcAt gh) ?_
  rintro v1 _ rfl
  refine Sm.b (Sm.gr gh gt) ?_
  rintro k2 k2' gk2
  refine Sm.b (Sm.gr gh gt) ?_
  rintro k3 k3' gk3
  refine Sm.b (Sm.is gh gk3) ?_
  intro _ _ _
  refine Sm.b (y_X5_get gk3 gh) ?_
  rintro v4 _ rfl
  refine Sm.b (Sm.is gh gk2) ?_
  intro _ _ _
  refine Sm.b (y_X5_set gk2 gh) ?_
  rintro v6 v6' gv6
  refine Sm.b (Sm.gr gv6 gt) ?_
  rintro k8 k8' gk8
  refine Sm.b (Sm.is gv6 gk8) ?_
  intro _ _ _
  refine Sm.b (y_X5_get gk8 gv6) ?_
  rintro v9 _ rfl
  refine Sm.l ?_
  refine Sm.b (Sm.r) ?_
  rintro z12 _ rfl
  exact Sm.s (Rp.i rfl gv6)
set_option maxHeartbeats 2000000 in
theorem y_X6_markFinal {t t' : Nat} {a1 : Int32} {a2 : Int32} {a3 : Int32} {h h' : tq_H} (gt : (Rr r d) t t') (gh : (Em r d W0 H0 al) h h') : Sm (Rp Eq (Em r d W0 H0 al)) (f_X6_markFinal t a1 a2 a3 h) (f_X6_markFinal t' a1 a2 a3 h') := by
  unfold f_X6_markFinal
  refine Sm.b (Sm.gr gh gt) ?_
  rintro k1 k1' gk1
  refine Sm.b (Sm.is gh gk1) ?_
  intro _ _ _
  refine Sm.b (y_X5_get gk1 gh) ?_
  rintro v2 _ rfl
  refine Sm.b (Sm.gr gh gt) ?_
  rintro k4 k4' gk4
  refine Sm.l ?_
  refine Sm.b (Sm.is gh gk4) ?_
  intro _ _ _
  refine Sm.b (y_X5_set gk4 gh) ?_
  rintro v6 v6' gv6
  refine Sm.l ?_
  refine Sm.b (Sm.r) ?_
  rintro z9 _ rfl
  exact Sm.s (Rp.i rfl gv6)
set_option maxHeartbeats 2000000 in
theorem y_X6_markTexts {t t' : Nat} {a1 : Int32} {a2 : Int32} {h h' : tq_H} (gt : (Rr r d) t t') (gh : (Em r d W0 H0 al) h h') : Sm (Rp Eq (Em r d W0 H0 al)) (f_X6_markTexts t a1 a2 h) (f_X6_markTexts t' a1 a2 h') := by
  unfold f_X6_markTexts
  refine Sm.b (Sm.gi gh gt) ?_
  rintro x1 _ rfl
  refine Sm.l ?_
  refine Sm.b (Sm.pf gh gt (okV_i _)) ?_
  rintro w3 w3' gw3
  refine Sm.l ?_
  refine Sm.b (Sm.r) ?_
  rintro z5 _ rfl
  exact Sm.s (Rp.i rfl gw3)
set_option maxHeartbeats 2000000 in
theorem y_X6_giveRule {t t' : Nat} {a1 : Int32} {a2 : Int32} {a3 : Int32} {h h' : tq_H} (gt : (Rr r d) t t') (gh : (Em r d W0 H0 al) h h') : Sm (Rp Eq (Em r d W0 H0 al)) (f_X6_giveRule t a1 a2 a3 h) (f_X6_giveRule t' a1 a2 a3 h') := by
  unfold f_X6_giveRule
  refine Sm.b (Sm.gr gh gt) ?_
  rintro k1 k1' gk1
  refine Sm.b (Sm.is gh gk1) ?_
  intro _ _ _
  refine Sm.b (y_X5_get gk1 gh) ?_
  rintro v2 _ rfl
  refine Sm.b (Sm.gr gh gt) ?_
  rintro k4 k4' gk4
  refine Sm.b (Sm.is gh gk4) ?_
  intro _ _ _
  refine Sm.b (y_X5_set gk4 gh) ?_
  rintro v5 v5' gv5
  exact Sm.s (Rp.i rfl gv5)
set_option maxHeartbeats 2000000 in
theorem y_X6_statesBehind_b6 {i0 i0' : Nat} {i1 : Int32} {i2 : Int32} {i3 : Int32} {hh hh' : tq_H} (gi0 : (Rr r d) i0 i0') (ghh : (Em r d W0 H0 al) hh hh') : ∀ s s', (Rp Eq Eq) s s' → Sm (Ru (Rp Eq Eq) Eq) (f_X6_statesBehind_b6 i0 i1 i2 i3 hh s) (f_X6_statesBehind_b6 i0' i1 i2 i3 hh' s') := by
  rintro ⟨y4, y5⟩ ⟨_, _⟩ ⟨rfl, rfl⟩
  dsimp only [f_X6_statesBehind_b6]
  refine Sm.i ?_ ?_
  · exact Sm.s (Ru.r rfl)
  · refine Sm.b (R := Eq) ?_ ?_
    · refine Sm.i ?_ ?_
      · exact Sm.s rfl
      · refine Sm.b (Sm.gr ghh gi0) ?_
        rintro k1 k1' gk1
        refine Sm.b (y_X6_arcAt ghh) ?_
        rintro v2 _ rfl
        refine Sm.b (Sm.is ghh gk1) ?_
        intro _ _ _
        refine Sm.b (y_X5_union gk1 ghh) ?_
        rintro v3 _ rfl
        refine Sm.l ?_
        exact Sm.s rfl
    · rintro p6 _ rfl
      refine Sm.l ?_
      exact Sm.s (Ru.l (Rp.i rfl rfl))
set_option maxHeartbeats 2000000 in
theorem y_X6_statesBehind {t t' : Nat} {a1 : Int32} {a2 : Int32} {a3 : Int32} {h h' : tq_H} (gt : (Rr r d) t t') (gh : (Em r d W0 H0 al) h h') : Sm Eq (f_X6_statesBehind t a1 a2 a3 h) (f_X6_statesBehind t' a1 a2 a3 h') := by
  unfold f_X6_statesBehind
  refine Sm.b (Sm.w (y_X6_statesBehind_b6 gt gh) tq_N (Rp.i rfl rfl)) ?_
  rintro o8 _ rfl
  exact Sm.s rfl
set_option maxHeartbeats 2000000 in
theorem y_X6_isAccepted_b12 {i0 i0' : Nat} {i3 : Int32} {hh hh' : tq_H} (gi0 : (Rr r d) i0 i0') (ghh : (Em r d W0 H0 al) hh hh') : ∀ s s', (Rp Eq (Rp Eq Eq)) s s' → Sm (Ru (Rp Eq (Rp Eq Eq)) Eq) (f_X6_isAccepted_b12 i0 i3 hh s) (f_X6_isAccepted_b12 i0' i3 hh' s') := by
  rintro ⟨y4, ⟨y5, y7⟩⟩ ⟨_, ⟨_, _⟩⟩ ⟨rfl, ⟨rfl, rfl⟩⟩
  dsimp only [f_X6_isAccepted_b12]
  refine Sm.i ?_ ?_
  · exact Sm.s (Ru.r rfl)
  · refine Sm.b (Sm.gr ghh gi0) ?_
    rintro k2 k2' gk2
    refine Sm.b (y_X0_lowest ghh) ?_
    rintro v3 _ rfl
    refine Sm.b (Sm.is ghh gk2) ?_
    intro _ _ _
    refine Sm.b (y_X5_get gk2 ghh) ?_
    rintro v4 _ rfl
    refine Sm.b (Sm.is ghh gi0) ?_
    intro _ _ _
    refine Sm.b (y_X6_statesBehind gi0 ghh) ?_
    rintro v6 _ rfl
    refine Sm.l ?_
    refine Sm.l ?_
    exact Sm.s (Ru.l (Rp.i rfl (Rp.i rfl rfl)))
set_option maxHeartbeats 2000000 in
theorem y_X6_isAccepted {t t' : Nat} {a1 : Int64} {a3 : Int32} {h h' : tq_H} (gt : (Rr r d) t t') (gh : (Em r d W0 H0 al) h h') : Sm Eq (f_X6_isAccepted t a1 a3 h) (f_X6_isAccepted t' a1 a3 h') := by
  unfold f_X6_isAccepted
  refine Sm.b (y_J13_bitCount_95d88 gh) ?_
  rintro v1 _ rfl
  refine Sm.b (Sm.w (y_X6_isAccepted_b12 gt gh) tq_N (Rp.i rfl (Rp.i rfl rfl))) ?_
  rintro o10 _ rfl
  refine Sm.b (Sm.gr gh gt) ?_
  rintro k11 k11' gk11
  refine Sm.b (Sm.is gh gk11) ?_
  intro _ _ _
  refine Sm.b (y_X5_get gk11 gh) ?_
  rintro v12 _ rfl
  refine Sm.l ?_
  refine Sm.b (Sm.r) ?_
  rintro z15 _ rfl
  exact Sm.s rfl
set_option maxHeartbeats 2000000 in
theorem y_X6_isOfType_b79 {i0 i0' : Nat} {i2 : Int32} {i3 : Int32} {i4 i4' : Nat} {hh hh' : tq_H} (gi0 : (Rr r d) i0 i0') (gi4 : (Rr r d) i4 i4') (ghh : (Em r d W0 H0 al) hh hh') : ∀ s s', Eq s s' → Sm (Ru Eq (Ru Eq Eq)) (f_X6_isOfType_b79 i0 i2 i3 i4 hh s) (f_X6_isOfType_b79 i0' i2 i3 i4' hh' s') := by
  rintro y6 _ rfl
  dsimp only [f_X6_isOfType_b79]
  refine Sm.i ?_ ?_
  · exact Sm.s (Ru.r (Ru.l rfl))
  · refine Sm.b (Sm.is ghh gi4) ?_
    intro _ _ _
    refine Sm.b (y_X3_attributesOf gi4 ghh) ?_
    rintro v15 _ rfl
    refine Sm.b (Sm.is ghh gi4) ?_
    intro _ _ _
    refine Sm.b (y_X3_passing gi4 ghh) ?_
    rintro v17 _ rfl
    refine Sm.l ?_
    refine Sm.b (Sm.gr ghh gi0) ?_
    rintro k20 k20' gk20
    refine Sm.b (Sm.is ghh gk20) ?_
    intro _ _ _
    refine Sm.b (y_X5_get gk20 ghh) ?_
    rintro v21 _ rfl
    refine Sm.l ?_
    refine Sm.i ?_ ?_
    · exact Sm.s (Ru.r (Ru.r rfl))
    · refine Sm.l ?_
      exact Sm.s (Ru.l rfl)
set_option maxHeartbeats 2000000 in
theorem y_X6_isOfType_b79_2 {i0 i0' : Nat} {i2 : Int32} {i3 : Int32} {i4 i4' : Nat} {hh hh' : tq_H} (gi0 : (Rr r d) i0 i0') (gi4 : (Rr r d) i4 i4') (ghh : (Em r d W0 H0 al) hh hh') : ∀ s s', Eq s s' → Sm (Ru Eq (Ru Eq Eq)) (f_X6_isOfType_b79_2 i0 i2 i3 i4 hh s) (f_X6_isOfType_b79_2 i0' i2 i3 i4' hh' s') := by
  rintro y6 _ rfl
  dsimp only [f_X6_isOfType_b79_2]
  refine Sm.i ?_ ?_
  · exact Sm.s (Ru.r (Ru.l rfl))
  · refine Sm.b (Sm.is ghh gi4) ?_
    intro _ _ _
    refine Sm.b (y_X3_attributesOf gi4 ghh) ?_
    rintro v34 _ rfl
    refine Sm.b (Sm.is ghh gi4) ?_
    intro _ _ _
    refine Sm.b (y_X3_passing gi4 ghh) ?_
    rintro v36 _ rfl
    refine Sm.l ?_
    refine Sm.b (Sm.gr ghh gi0) ?_
    rintro k39 k39' gk39
    refine Sm.b (Sm.is ghh gk39) ?_
    intro _ _ _
    refine Sm.b (y_X5_get gk39 ghh) ?_
    rintro v40 _ rfl
    refine Sm.l ?_
    refine Sm.i ?_ ?_
    · exact Sm.s (Ru.r (Ru.r rfl))
    · refine Sm.l ?_
      exact Sm.s (Ru.l rfl)
set_option maxHeartbeats 2000000 in
theorem y_X6_isOfType {t t' : Nat} {a1 a1' : Nat} {a2 : Int32} {a3 : Int32} {h h' : tq_H} (gt : (Rr r d) t t') (ga1 : (Rr r d) a1 a1') (gh : (Em r d W0 H0 al) h h') : Sm Eq (f_X6_isOfType t a1 a2 a3 h) (f_X6_isOfType t' a1' a2 a3 h') := by
  unfold f_X6_isOfType
  refine Sm.b (Sm.gr gh ga1) ?_
  rintro k1 k1' gk1
  refine Sm.b (Sm.gr gh gt) ?_
  rintro k2 k2' gk2
  refine Sm.b (Sm.is gh gk2) ?_
  intro _ _ _
  refine Sm.b (y_X5_get gk2 gh) ?_
  rintro v3 _ rfl
  refine Sm.b (Sm.gr gh ga1) ?_
  rintro k5 k5' gk5
  refine Sm.b (Sm.is gh gk1) ?_
  intro _ _ _
  refine Sm.b (y_X3_nodeAt gk1 gh) ?_
  rintro v6 _ rfl
  refine Sm.b (Sm.is gh gk5) ?_
  intro _ _ _
  refine Sm.b (y_X5_get gk5 gh) ?_
  rintro v8 _ rfl
  refine Sm.i ?_ ?_
  · refine Sm.b (Sm.is gh gk1) ?_
    intro _ _ _
    refine Sm.b (y_X3_children gk1 gh) ?_
    rintro v10 _ rfl
    refine Sm.b (Sm.is gh gk1) ?_
    intro _ _ _
    refine Sm.b (y_X3_passing gk1 gh) ?_
    rintro v12 _ rfl
    refine Sm.l ?_
    refine Sm.i ?_ ?_
    · refine Sm.u (Sm.w (y_X6_isOfType_b79 gt gk1 gh) tq_N rfl) ?_ ?_
      · rintro o25 _ rfl
        refine Sm.b (Sm.is gh gk1) ?_
        intro _ _ _
        refine Sm.b (y_X3_children gk1 gh) ?_
        rintro v26 _ rfl
        refine Sm.b (Sm.is gh gk1) ?_
        intro _ _ _
        refine Sm.b (y_X3_elements gk1 gh) ?_
        rintro v28 _ rfl
        refine Sm.b (Sm.is gh gt) ?_
        intro _ _ _
        refine Sm.b (y_X6_isAccepted gt gh) ?_
        rintro v30 _ rfl
        refine Sm.b (Sm.r) ?_
        rintro z32 _ rfl
        exact Sm.s rfl
      · rintro e9 _ rfl
        exact Sm.s rfl
    · refine Sm.b (Sm.gi gh gt) ?_
      rintro x33 _ rfl
      refine Sm.i ?_ ?_
      · exact Sm.s rfl
      · refine Sm.u (Sm.w (y_X6_isOfType_b79_2 gt gk1 gh) tq_N rfl) ?_ ?_
        · rintro o44 _ rfl
          refine Sm.b (Sm.is gh gk1) ?_
          intro _ _ _
          refine Sm.b (y_X3_children gk1 gh) ?_
          rintro v45 _ rfl
          refine Sm.b (Sm.is gh gk1) ?_
          intro _ _ _
          refine Sm.b (y_X3_elements gk1 gh) ?_
          rintro v47 _ rfl
          refine Sm.b (Sm.is gh gt) ?_
          intro _ _ _
          refine Sm.b (y_X6_isAccepted gt gh) ?_
          rintro v49 _ rfl
          refine Sm.b (Sm.r) ?_
          rintro z51 _ rfl
          exact Sm.s rfl
        · rintro e9 _ rfl
          exact Sm.s rfl
  · exact Sm.s rfl
set_option maxHeartbeats 2000000 in
theorem y_X6_typesOf_b25 {i0 i0' : Nat} {i1 i1' : Nat} {i2 : Int32} {i3 : Int32} {hh hh' : tq_H} (gi0 : (Rr r d) i0 i0') (gi1 : (Rr r d) i1 i1') (ghh : (Em r d W0 H0 al) hh hh') : ∀ s s', (Rp Eq Eq) s s' → Sm (Ru (Rp Eq Eq) Eq) (f_X6_typesOf_b25 i0 i1 i2 i3 hh s) (f_X6_typesOf_b25 i0' i1' i2 i3 hh' s') := by
  rintro ⟨y4, y5⟩ ⟨_, _⟩ ⟨rfl, rfl⟩
  dsimp only [f_X6_typesOf_b25]
  refine Sm.i ?_ ?_
  · exact Sm.s (Ru.r rfl)
  · refine Sm.b (Sm.gr ghh gi1) ?_
    rintro k5 k5' gk5
    refine Sm.b (Sm.is ghh gk5) ?_
    intro _ _ _
    refine Sm.b (y_X3_elements gk5 ghh) ?_
    rintro v6 _ rfl
    refine Sm.b (y_X0_holds ghh) ?_
    rintro v8 _ rfl
    refine Sm.b (R := Eq) ?_ ?_
    · refine Sm.i ?_ ?_
      · exact Sm.s rfl
      · refine Sm.b (Sm.is ghh gi0) ?_
        intro _ _ _
        refine Sm.b (y_X6_isOfType gi0 gi1 ghh) ?_
        rintro v9 _ rfl
        refine Sm.i ?_ ?_
        · exact Sm.s rfl
        · refine Sm.l ?_
          exact Sm.s rfl
    · rintro p12 _ rfl
      refine Sm.l ?_
      exact Sm.s (Ru.l (Rp.i rfl rfl))
set_option maxHeartbeats 2000000 in
theorem y_X6_typesOf_b10 {i0 i0' : Nat} {i1 i1' : Nat} {i2 : Int32} (gi0 : (Rr r d) i0 i0') (gi1 : (Rr r d) i1 i1') : ∀ s s', (Rp Eq (Em r d W0 H0 al)) s s' → Sm (Ru (Rp Eq (Em r d W0 H0 al)) (Em r d W0 H0 al)) (f_X6_typesOf_b10 i0 i1 i2 s) (f_X6_typesOf_b10 i0' i1' i2 s') := by
  rintro ⟨y3, hh⟩ ⟨_, hh'⟩ ⟨rfl, ghh⟩
  dsimp only [f_X6_typesOf_b10]
  refine Sm.i ?_ ?_
  · exact Sm.s (Ru.r ghh)
  · refine Sm.i ?_ ?_
    · exact Sm.s (Ru.r ghh)
    · refine Sm.b (Sm.w (y_X6_typesOf_b25 gi0 gi1 ghh) tq_N (Rp.i rfl rfl)) ?_
      rintro o14 _ rfl
      refine Sm.b (Sm.gr ghh gi0) ?_
      rintro k15 k15' gk15
      refine Sm.b (Sm.is ghh gk15) ?_
      intro _ _ _
      refine Sm.b (y_X5_set gk15 ghh) ?_
      rintro v16 v16' gv16
      refine Sm.l ?_
      exact Sm.s (Ru.l (Rp.i rfl gv16))
set_option maxHeartbeats 2000000 in
theorem y_X6_typesOf {t t' : Nat} {a1 a1' : Nat} {a2 : Int32} {h h' : tq_H} (gt : (Rr r d) t t') (ga1 : (Rr r d) a1 a1') (gh : (Em r d W0 H0 al) h h') : Sm (Rp Eq (Em r d W0 H0 al)) (f_X6_typesOf t a1 a2 h) (f_X6_typesOf t' a1' a2 h') := by
  unfold f_X6_typesOf
  refine Sm.b (Sm.gr gh ga1) ?_
  rintro k1 k1' gk1
  refine Sm.b (Sm.is gh gk1) ?_
  intro _ _ _
  refine Sm.b (y_X3_count gk1 gh) ?_
  rintro v2 _ rfl
  refine Sm.l ?_
  refine Sm.b (Sm.w (y_X6_typesOf_b10 gt ga1) tq_N (Rp.i rfl gh)) ?_
  rintro o19 o19' go19
  refine Sm.b (Sm.gr go19 gt) ?_
  rintro k20 k20' gk20
  refine Sm.b (Sm.is go19 gk20) ?_
  intro _ _ _
  refine Sm.b (y_X5_get gk20 go19) ?_
  rintro v21 _ rfl
  exact Sm.s (Rp.i rfl go19)
set_option maxHeartbeats 2000000 in
theorem y_X6_admits {t t' : Nat} {a1 a1' : Nat} {h h' : tq_H} (gt : (Rr r d) t t') (ga1 : (Rr r d) a1 a1') (gh : (Em r d W0 H0 al) h h') : Sm (Rp Eq (Em r d W0 H0 al)) (f_X6_admits t a1 h) (f_X6_admits t' a1' h') := by
  unfold f_X6_admits
  refine Sm.b (Sm.is gh gt) ?_
  intro _ _ _
  refine Sm.b (y_X6_typesOf gt ga1 gh) ?_
  rintro ⟨v1a, v1b⟩ ⟨_, v1b'⟩ ⟨rfl, gv1b⟩
  refine Sm.l ?_
  refine Sm.b (Sm.r) ?_
  rintro z4 _ rfl
  exact Sm.s (Rp.i rfl gv1b)
set_option maxHeartbeats 2000000 in
theorem y_X6_possible_b22 {i0 i0' : Nat} {i1 : Int32} {i3 : Int32} {hh hh' : tq_H} (gi0 : (Rr r d) i0 i0') (ghh : (Em r d W0 H0 al) hh hh') : ∀ s s', (Rp Eq Eq) s s' → Sm (Ru (Rp Eq Eq) Eq) (f_X6_possible_b22 i0 i1 i3 hh s) (f_X6_possible_b22 i0' i1 i3 hh' s') := by
  rintro ⟨y2, y4⟩ ⟨_, _⟩ ⟨rfl, rfl⟩
  dsimp only [f_X6_possible_b22]
  refine Sm.i ?_ ?_
  · exact Sm.s (Ru.r rfl)
  · refine Sm.b (Sm.gr ghh gi0) ?_
    rintro k3 k3' gk3
    refine Sm.b (y_X6_arcAt ghh) ?_
    rintro v4 _ rfl
    refine Sm.b (Sm.is ghh gk3) ?_
    intro _ _ _
    refine Sm.b (y_X5_get gk3 ghh) ?_
    rintro v5 _ rfl
    refine Sm.l ?_
    refine Sm.l ?_
    refine Sm.l ?_
    exact Sm.s (Ru.l (Rp.i rfl rfl))
set_option maxHeartbeats 2000000 in
theorem y_X6_possible_b14 {i0 i0' : Nat} {i1 : Int32} {hh hh' : tq_H} (gi0 : (Rr r d) i0 i0') (ghh : (Em r d W0 H0 al) hh hh') : ∀ s s', (Rp Eq Eq) s s' → Sm (Ru (Rp Eq Eq) Eq) (f_X6_possible_b14 i0 i1 hh s) (f_X6_possible_b14 i0' i1 hh' s') := by
  rintro ⟨y2, y3⟩ ⟨_, _⟩ ⟨rfl, rfl⟩
  dsimp only [f_X6_possible_b14]
  refine Sm.i ?_ ?_
  · exact Sm.s (Ru.r rfl)
  · refine Sm.b (Sm.w (y_X6_possible_b22 gi0 ghh) tq_N (Rp.i rfl rfl)) ?_
    rintro o10 _ rfl
    refine Sm.l ?_
    exact Sm.s (Ru.l (Rp.i rfl rfl))
set_option maxHeartbeats 2000000 in
theorem y_X6_possible_b71 {i0 i0' : Nat} {i1 : Int32} {hh hh' : tq_H} (gi0 : (Rr r d) i0 i0') (ghh : (Em r d W0 H0 al) hh hh') : ∀ s s', (Rp Eq Eq) s s' → Sm (Ru (Rp Eq Eq) Eq) (f_X6_possible_b71 i0 i1 hh s) (f_X6_possible_b71 i0' i1 hh' s') := by
  rintro ⟨y2, y3⟩ ⟨_, _⟩ ⟨rfl, rfl⟩
  dsimp only [f_X6_possible_b71]
  refine Sm.i ?_ ?_
  · exact Sm.s (Ru.r rfl)
  · refine Sm.b (Sm.gr ghh gi0) ?_
    rintro k13 k13' gk13
    refine Sm.b (Sm.is ghh gk13) ?_
    intro _ _ _
    refine Sm.b (y_X5_get gk13 ghh) ?_
    rintro v14 _ rfl
    refine Sm.l ?_
    refine Sm.l ?_
    refine Sm.l ?_
    exact Sm.s (Ru.l (Rp.i rfl rfl))
set_option maxHeartbeats 2000000 in
theorem y_X6_possible {t t' : Nat} {a1 : Int32} {h h' : tq_H} (gt : (Rr r d) t t') (gh : (Em r d W0 H0 al) h h') : Sm Eq (f_X6_possible t a1 h) (f_X6_possible t' a1 h') := by
  unfold f_X6_possible
  refine Sm.b (Sm.gi gh gt) ?_
  rintro x1 _ rfl
  refine Sm.l ?_
  refine Sm.b (Sm.w (y_X6_possible_b14 gt gh) tq_N (Rp.i rfl rfl)) ?_
  rintro o12 _ rfl
  refine Sm.b (Sm.w (y_X6_possible_b71 gt gh) tq_N (Rp.i rfl rfl)) ?_
  rintro o19 _ rfl
  exact Sm.s rfl
set_option maxHeartbeats 2000000 in
theorem y_X6_learn_b18 {i0 i0' : Nat} (gi0 : (Rr r d) i0 i0') : ∀ s s', (Rp Eq (Em r d W0 H0 al)) s s' → Sm (Ru (Rp Eq (Em r d W0 H0 al)) (Em r d W0 H0 al)) (f_X6_learn_b18 i0 s) (f_X6_learn_b18 i0' s') := by
  rintro ⟨y1, hh⟩ ⟨_, hh'⟩ ⟨rfl, ghh⟩
  dsimp only [f_X6_learn_b18]
  refine Sm.i ?_ ?_
  · exact Sm.s (Ru.r ghh)
  · refine Sm.b (Sm.gr ghh gi0) ?_
    rintro k7 k7' gk7
    refine Sm.b (Sm.is ghh gi0) ?_
    intro _ _ _
    refine Sm.b (y_X6_possible gi0 ghh) ?_
    rintro v8 _ rfl
    refine Sm.b (Sm.is ghh gk7) ?_
    intro _ _ _
    refine Sm.b (y_X5_set gk7 ghh) ?_
    rintro v10 v10' gv10
    refine Sm.l ?_
    exact Sm.s (Ru.l (Rp.i rfl gv10))
set_option maxHeartbeats 2000000 in
theorem y_X6_learn_b100 {i0 i0' : Nat} {i1 : Int32} {i2 : Int32} {i3 : Int32} (gi0 : (Rr r d) i0 i0') : ∀ s s', (Rp Eq (Em r d W0 H0 al)) s s' → Sm (Ru (Rp Eq (Em r d W0 H0 al)) (Em r d W0 H0 al)) (f_X6_learn_b100 i0 i1 i2 i3 s) (f_X6_learn_b100 i0' i1 i2 i3 s') := by
  rintro ⟨y4, hh⟩ ⟨_, hh'⟩ ⟨rfl, ghh⟩
  dsimp only [f_X6_learn_b100]
  refine Sm.i ?_ ?_
  · exact Sm.s (Ru.r ghh)
  · refine Sm.b (R := (Em r d W0 H0 al)) ?_ ?_
    · refine Sm.i ?_ ?_
      · exact Sm.s ghh
      · refine Sm.i ?_ ?_
        · exact Sm.s ghh
        · refine Sm.b (Sm.gr ghh gi0) ?_
          rintro k25 k25' gk25
          refine Sm.b (Sm.gr ghh gi0) ?_
          rintro k26 k26' gk26
          refine Sm.b (Sm.is ghh gk26) ?_
          intro _ _ _
          refine Sm.b (y_X5_get gk26 ghh) ?_
          rintro v27 _ rfl
          refine Sm.b (Sm.is ghh gk25) ?_
          intro _ _ _
          refine Sm.b (y_X5_set gk25 ghh) ?_
          rintro v29 v29' gv29
          exact Sm.s gv29
    · rintro p31 p31' gp31
      refine Sm.l ?_
      exact Sm.s (Ru.l (Rp.i rfl gp31))
set_option maxHeartbeats 2000000 in
theorem y_X6_learn_b60 {i0 i0' : Nat} (gi0 : (Rr r d) i0 i0') : ∀ s s', (Rp Eq (Em r d W0 H0 al)) s s' → Sm (Ru (Rp Eq (Em r d W0 H0 al)) (Em r d W0 H0 al)) (f_X6_learn_b60 i0 s) (f_X6_learn_b60 i0' s') := by
  rintro ⟨y1, hh⟩ ⟨_, hh'⟩ ⟨rfl, ghh⟩
  dsimp only [f_X6_learn_b60]
  refine Sm.i ?_ ?_
  · exact Sm.s (Ru.r ghh)
  · refine Sm.b (Sm.gr ghh gi0) ?_
    rintro k18 k18' gk18
    refine Sm.b (Sm.is ghh gk18) ?_
    intro _ _ _
    refine Sm.b (y_X5_get gk18 ghh) ?_
    rintro v19 _ rfl
    refine Sm.b (Sm.gi ghh gi0) ?_
    rintro x21 _ rfl
    refine Sm.l ?_
    refine Sm.b (Sm.gi ghh gi0) ?_
    rintro x23 _ rfl
    refine Sm.l ?_
    refine Sm.b (Sm.w (y_X6_learn_b100 gi0) tq_N (Rp.i rfl ghh)) ?_
    rintro o33 o33' go33
    refine Sm.l ?_
    exact Sm.s (Ru.l (Rp.i rfl go33))
set_option maxHeartbeats 2000000 in
theorem y_X6_learn {t t' : Nat} {h h' : tq_H} (gt : (Rr r d) t t') (gh : (Em r d W0 H0 al) h h') : Sm (Em r d W0 H0 al) (f_X6_learn t h) (f_X6_learn t' h') := by
  unfold f_X6_learn
  refine Sm.b (Sm.gr gh gt) ?_
  rintro k1 k1' gk1
  refine Sm.b (Sm.is gh gk1) ?_
  intro _ _ _
  refine Sm.b (y_X5_setAll gk1 gh) ?_
  rintro v2 v2' gv2
  refine Sm.b (Sm.gr gv2 gt) ?_
  rintro k4 k4' gk4
  refine Sm.b (Sm.is gv2 gk4) ?_
  intro _ _ _
  refine Sm.b (y_X5_setAll gk4 gv2) ?_
  rintro v5 v5' gv5
  refine Sm.b (Sm.w (y_X6_learn_b18 gt) tq_N (Rp.i rfl gv5)) ?_
  rintro o13 o13' go13
  refine Sm.b (Sm.gr go13 gt) ?_
  rintro k14 k14' gk14
  refine Sm.b (Sm.is go13 gk14) ?_
  intro _ _ _
  refine Sm.b (y_X5_closure gk14 go13) ?_
  rintro v15 _ rfl
  refine Sm.b (Sm.pf go13 gt (okV_i _)) ?_
  rintro w17 w17' gw17
  refine Sm.b (Sm.w (y_X6_learn_b60 gt) tq_N (Rp.i rfl gw17)) ?_
  rintro o35 o35' go35
  exact Sm.s go35
set_option maxHeartbeats 2000000 in
theorem y_X6_tellAxis {t t' : Nat} {a1 : Int32} {a2 : Int32} {h h' : tq_H} (gt : (Rr r d) t t') (gh : (Em r d W0 H0 al) h h') : Sm Eq (f_X6_tellAxis t a1 a2 h) (f_X6_tellAxis t' a1 a2 h') := by
  unfold f_X6_tellAxis
  refine Sm.i ?_ ?_
  · exact Sm.s rfl
  · refine Sm.i ?_ ?_
    · refine Sm.b (Sm.gr gh gt) ?_
      rintro k1 k1' gk1
      refine Sm.b (Sm.is gh gk1) ?_
      intro _ _ _
      refine Sm.b (y_X5_union gk1 gh) ?_
      rintro v2 _ rfl
      exact Sm.s rfl
    · refine Sm.i ?_ ?_
      · refine Sm.b (Sm.gr gh gt) ?_
        rintro k4 k4' gk4
        refine Sm.b (Sm.is gh gk4) ?_
        intro _ _ _
        refine Sm.b (y_X5_union gk4 gh) ?_
        rintro v5 _ rfl
        exact Sm.s rfl
      · refine Sm.i ?_ ?_
        · refine Sm.b (Sm.gr gh gt) ?_
          rintro k7 k7' gk7
          refine Sm.b (Sm.is gh gk7) ?_
          intro _ _ _
          refine Sm.b (y_X5_closure gk7 gh) ?_
          rintro v8 _ rfl
          exact Sm.s rfl
        · refine Sm.i ?_ ?_
          · refine Sm.b (Sm.gr gh gt) ?_
            rintro k10 k10' gk10
            refine Sm.b (Sm.is gh gk10) ?_
            intro _ _ _
            refine Sm.b (y_X5_closure gk10 gh) ?_
            rintro v11 _ rfl
            exact Sm.s rfl
          · refine Sm.i ?_ ?_
            · refine Sm.b (Sm.gr gh gt) ?_
              rintro k13 k13' gk13
              refine Sm.b (Sm.is gh gk13) ?_
              intro _ _ _
              refine Sm.b (y_X5_closure gk13 gh) ?_
              rintro v14 _ rfl
              exact Sm.s rfl
            · refine Sm.i ?_ ?_
              · refine Sm.b (Sm.gr gh gt) ?_
                rintro k16 k16' gk16
                refine Sm.b (Sm.is gh gk16) ?_
                intro _ _ _
                refine Sm.b (y_X5_closure gk16 gh) ?_
                rintro v17 _ rfl
                exact Sm.s rfl
              · refine Sm.i ?_ ?_
                · refine Sm.b (R := Eq) ?_ ?_
                  · refine Sm.i ?_ ?_
                    · exact Sm.s rfl
                    · refine Sm.b (Sm.gi gh gt) ?_
                      rintro x19 _ rfl
                      exact Sm.s rfl
                  · rintro p20 _ rfl
                    exact Sm.s rfl
                · refine Sm.i ?_ ?_
                  · refine Sm.b (R := Eq) ?_ ?_
                    · refine Sm.i ?_ ?_
                      · exact Sm.s rfl
                      · refine Sm.b (Sm.gi gh gt) ?_
                        rintro x21 _ rfl
                        exact Sm.s rfl
                    · rintro p22 _ rfl
                      exact Sm.s rfl
                  · refine Sm.i ?_ ?_
                    · refine Sm.b (Sm.gr gh gt) ?_
                      rintro k23 k23' gk23
                      refine Sm.b (Sm.gr gh gt) ?_
                      rintro k24 k24' gk24
                      refine Sm.b (Sm.is gh gk24) ?_
                      intro _ _ _
                      refine Sm.b (y_X5_union gk24 gh) ?_
                      rintro v25 _ rfl
                      refine Sm.b (Sm.is gh gk23) ?_
                      intro _ _ _
                      refine Sm.b (y_X5_union gk23 gh) ?_
                      rintro v27 _ rfl
                      exact Sm.s rfl
                    · refine Sm.i ?_ ?_
                      · refine Sm.b (Sm.gr gh gt) ?_
                        rintro k29 k29' gk29
                        refine Sm.b (Sm.gr gh gt) ?_
                        rintro k30 k30' gk30
                        refine Sm.b (Sm.is gh gk30) ?_
                        intro _ _ _
                        refine Sm.b (y_X5_union gk30 gh) ?_
                        rintro v31 _ rfl
                        refine Sm.b (Sm.is gh gk29) ?_
                        intro _ _ _
                        refine Sm.b (y_X5_union gk29 gh) ?_
                        rintro v33 _ rfl
                        exact Sm.s rfl
                      · refine Sm.b (Sm.gr gh gt) ?_
                        rintro k35 k35' gk35
                        refine Sm.b (Sm.is gh gk35) ?_
                        intro _ _ _
                        refine Sm.b (y_X5_union gk35 gh) ?_
                        rintro v36 _ rfl
                        exact Sm.s rfl
set_option maxHeartbeats 2000000 in
theorem y_X6_tellTest_b34 {i0 i0' : Nat} {i1 : Int32} {hh hh' : tq_H} (gi0 : (Rr r d) i0 i0') (ghh : (Em r d W0 H0 al) hh hh') : ∀ s s', (Rp Eq Eq) s s' → Sm (Ru (Rp Eq Eq) Eq) (f_X6_tellTest_b34 i0 i1 hh s) (f_X6_tellTest_b34 i0' i1 hh' s') := by
  rintro ⟨y2, y3⟩ ⟨_, _⟩ ⟨rfl, rfl⟩
  dsimp only [f_X6_tellTest_b34]
  refine Sm.i ?_ ?_
  · exact Sm.s (Ru.r rfl)
  · refine Sm.b (Sm.gr ghh gi0) ?_
    rintro k1 k1' gk1
    refine Sm.b (Sm.is ghh gk1) ?_
    intro _ _ _
    refine Sm.b (y_X5_get gk1 ghh) ?_
    rintro v2 _ rfl
    refine Sm.l ?_
    refine Sm.l ?_
    refine Sm.l ?_
    exact Sm.s (Ru.l (Rp.i rfl rfl))
set_option maxHeartbeats 2000000 in
theorem y_X6_tellTest {t t' : Nat} {a1 : Int32} {h h' : tq_H} (gt : (Rr r d) t t') (gh : (Em r d W0 H0 al) h h') : Sm Eq (f_X6_tellTest t a1 h) (f_X6_tellTest t' a1 h') := by
  unfold f_X6_tellTest
  refine Sm.i ?_ ?_
  · exact Sm.s rfl
  · refine Sm.i ?_ ?_
    · exact Sm.s rfl
    · refine Sm.i ?_ ?_
      · refine Sm.b (Sm.w (y_X6_tellTest_b34 gt gh) tq_N (Rp.i rfl rfl)) ?_
        rintro o7 _ rfl
        exact Sm.s rfl
      · exact Sm.s rfl
set_option maxHeartbeats 2000000 in
theorem y_X6_tellStep {t t' : Nat} {a1 a1' : Nat} {a2 : Int32} {a3 : Int32} {h h' : tq_H} (gt : (Rr r d) t t') (ga1 : (Rr r d) a1 a1') (gh : (Em r d W0 H0 al) h h') : Sm Eq (f_X6_tellStep t a1 a2 a3 h) (f_X6_tellStep t' a1' a2 a3 h') := by
  unfold f_X6_tellStep
  refine Sm.b (Sm.is gh ga1) ?_
  intro _ _ _
  refine Sm.b (y_X4_axisOf ga1 gh) ?_
  rintro v1 _ rfl
  refine Sm.l ?_
  refine Sm.b (R := Eq) ?_ ?_
  · refine Sm.i ?_ ?_
    · refine Sm.b (Sm.is gh gt) ?_
      intro _ _ _
      refine Sm.b (y_X6_tellAxis gt gh) ?_
      rintro v4 _ rfl
      exact Sm.s rfl
    · refine Sm.b (Sm.gr gh gt) ?_
      rintro k6 k6' gk6
      refine Sm.b (Sm.is gh ga1) ?_
      intro _ _ _
      refine Sm.b (y_X4_repeatOf ga1 gh) ?_
      rintro v7 _ rfl
      refine Sm.b (Sm.is gh gk6) ?_
      intro _ _ _
      refine Sm.b (y_X5_closure gk6 gh) ?_
      rintro v9 _ rfl
      exact Sm.s rfl
  · rintro p11 _ rfl
    refine Sm.b (Sm.is gh ga1) ?_
    intro _ _ _
    refine Sm.b (y_X4_testOf ga1 gh) ?_
    rintro v12 _ rfl
    refine Sm.b (Sm.is gh gt) ?_
    intro _ _ _
    refine Sm.b (y_X6_tellTest gt gh) ?_
    rintro v14 _ rfl
    exact Sm.s rfl
set_option maxHeartbeats 2000000 in
theorem y_X6_tell_b35 {i0 i0' : Nat} {i1 i1' : Nat} {i2 : Int32} {i3 : Int32} {i4 : Int32} {hh hh' : tq_H} (gi0 : (Rr r d) i0 i0') (gi1 : (Rr r d) i1 i1') (ghh : (Em r d W0 H0 al) hh hh') : ∀ s s', (Rp Eq Eq) s s' → Sm (Ru (Rp Eq Eq) Eq) (f_X6_tell_b35 i0 i1 i2 i3 i4 hh s) (f_X6_tell_b35 i0' i1' i2 i3 i4 hh' s') := by
  rintro ⟨y5, y6⟩ ⟨_, _⟩ ⟨rfl, rfl⟩
  dsimp only [f_X6_tell_b35]
  refine Sm.b (Sm.is ghh gi1) ?_
  intro _ _ _
  refine Sm.b (y_X4_stepsOf gi1 ghh) ?_
  rintro v5 _ rfl
  refine Sm.i ?_ ?_
  · exact Sm.s (Ru.r rfl)
  · refine Sm.b (Sm.is ghh gi1) ?_
    intro _ _ _
    refine Sm.b (y_X4_stepAt gi1 ghh) ?_
    rintro v7 _ rfl
    refine Sm.b (Sm.is ghh gi0) ?_
    intro _ _ _
    refine Sm.b (y_X6_tellStep gi0 gi1 ghh) ?_
    rintro v9 _ rfl
    refine Sm.l ?_
    exact Sm.s (Ru.l (Rp.i rfl rfl))
set_option maxHeartbeats 2000000 in
theorem y_X6_tell_b14 {i0 i0' : Nat} {i1 i1' : Nat} {i2 : Int32} {i3 : Int32} (gi0 : (Rr r d) i0 i0') (gi1 : (Rr r d) i1 i1') : ∀ s s', (Rp Eq (Em r d W0 H0 al)) s s' → Sm (Ru (Rp Eq (Em r d W0 H0 al)) (Em r d W0 H0 al)) (f_X6_tell_b14 i0 i1 i2 i3 s) (f_X6_tell_b14 i0' i1' i2 i3 s') := by
  rintro ⟨y4, hh⟩ ⟨_, hh'⟩ ⟨rfl, ghh⟩
  dsimp only [f_X6_tell_b14]
  refine Sm.i ?_ ?_
  · exact Sm.s (Ru.r ghh)
  · refine Sm.b (Sm.gi ghh gi0) ?_
    rintro x3 _ rfl
    refine Sm.l ?_
    refine Sm.b (Sm.w (y_X6_tell_b35 gi0 gi1 ghh) tq_N (Rp.i rfl rfl)) ?_
    rintro o12 _ rfl
    refine Sm.b (Sm.gr ghh gi0) ?_
    rintro k13 k13' gk13
    refine Sm.b (Sm.is ghh gk13) ?_
    intro _ _ _
    refine Sm.b (y_X5_set gk13 ghh) ?_
    rintro v14 v14' gv14
    refine Sm.l ?_
    exact Sm.s (Ru.l (Rp.i rfl gv14))
set_option maxHeartbeats 2000000 in
theorem y_X6_tell_b6 {i0 i0' : Nat} {i1 i1' : Nat} {i2 : Int32} (gi0 : (Rr r d) i0 i0') (gi1 : (Rr r d) i1 i1') : ∀ s s', (Rp Eq (Em r d W0 H0 al)) s s' → Sm (Ru (Rp Eq (Em r d W0 H0 al)) (Em r d W0 H0 al)) (f_X6_tell_b6 i0 i1 i2 s) (f_X6_tell_b6 i0' i1' i2 s') := by
  rintro ⟨y3, hh⟩ ⟨_, hh'⟩ ⟨rfl, ghh⟩
  dsimp only [f_X6_tell_b6]
  refine Sm.i ?_ ?_
  · exact Sm.s (Ru.r ghh)
  · refine Sm.b (Sm.w (y_X6_tell_b14 gi0 gi1) tq_N (Rp.i rfl ghh)) ?_
    rintro o17 o17' go17
    refine Sm.l ?_
    exact Sm.s (Ru.l (Rp.i rfl go17))
set_option maxHeartbeats 2000000 in
theorem y_X6_tell {t t' : Nat} {a1 a1' : Nat} {a2 : Int32} {h h' : tq_H} (gt : (Rr r d) t t') (ga1 : (Rr r d) a1 a1') (gh : (Em r d W0 H0 al) h h') : Sm (Rp Eq (Em r d W0 H0 al)) (f_X6_tell t a1 a2 h) (f_X6_tell t' a1' a2 h') := by
  unfold f_X6_tell
  refine Sm.b (Sm.is gh gt) ?_
  intro _ _ _
  refine Sm.b (y_X6_learn gt gh) ?_
  rintro v1 v1' gv1
  refine Sm.b (Sm.w (y_X6_tell_b6 gt ga1) tq_N (Rp.i rfl gv1)) ?_
  rintro o19 o19' go19
  refine Sm.b (Sm.gr go19 gt) ?_
  rintro k20 k20' gk20
  refine Sm.b (Sm.is go19 gk20) ?_
  intro _ _ _
  refine Sm.b (y_X5_get gk20 go19) ?_
  rintro v21 _ rfl
  exact Sm.s (Rp.i rfl go19)
set_option maxHeartbeats 2000000 in
theorem y_X10_init {t t' : Nat} {h h' : tq_H} (ha : al) (gt : (Rr r d) t t') (gh : (Em r d W0 H0 al) h h') : Sm (Em r d W0 H0 al) (f_X10_init t h) (f_X10_init t' h') := by
  unfold f_X10_init
  refine Sm.n ha gh (okO_l rfl) (fun w1 w1' gw1 => ?_)
  refine Sm.b (y_X8_init ha (gh.nr ha) gw1) ?_
  rintro v2 v2' gv2
  refine Sm.b (Sm.pf gv2 gt (okV_r (gh.nr ha))) ?_
  rintro w3 w3' gw3
  refine Sm.n ha gw3 (okO_l rfl) (fun w4 w4' gw4 => ?_)
  refine Sm.b (y_X8_init ha (gw3.nr ha) gw4) ?_
  rintro v5 v5' gv5
  refine Sm.b (Sm.pf gv5 gt (okV_r (gw3.nr ha))) ?_
  rintro w6 w6' gw6
  refine Sm.n ha gw6 (okO_l rfl) (fun w7 w7' gw7 => ?_)
  refine Sm.b (y_X9_init ha (gw6.nr ha) gw7) ?_
  rintro v8 v8' gv8
  refine Sm.b (Sm.pf gv8 gt (okV_r (gw6.nr ha))) ?_
  rintro w9 w9' gw9
  refine Sm.n ha gw9 (okO_l rfl) (fun w10 w10' gw10 => ?_)
  refine Sm.b (y_X4_init ha (gw9.nr ha) gw10) ?_
  rintro v11 v11' gv11
  refine Sm.b (Sm.pf gv11 gt (okV_r (gw9.nr ha))) ?_
  rintro w12 w12' gw12
  refine Sm.n ha gw12 (okO_l rfl) (fun w13 w13' gw13 => ?_)
  refine Sm.b (Sm.gr gw13 gt) ?_
  rintro k14 k14' gk14
  refine Sm.b (Sm.gr gw13 gt) ?_
  rintro k15 k15' gk15
  refine Sm.b (y_X2_init ha (gw12.nr ha) gk14 gk15 gw13) ?_
  rintro v16 v16' gv16
  refine Sm.b (Sm.pf gv16 gt (okV_r (gw12.nr ha))) ?_
  rintro w17 w17' gw17
  refine Sm.n ha gw17 (okO_l rfl) (fun w18 w18' gw18 => ?_)
  refine Sm.b (Sm.gr gw18 gt) ?_
  rintro k19 k19' gk19
  refine Sm.b (Sm.gr gw18 gt) ?_
  rintro k20 k20' gk20
  refine Sm.b (y_X2_init ha (gw17.nr ha) gk19 gk20 gw18) ?_
  rintro v21 v21' gv21
  refine Sm.b (Sm.pf gv21 gt (okV_r (gw17.nr ha))) ?_
  rintro w22 w22' gw22
  refine Sm.n ha gw22 (okO_l rfl) (fun w23 w23' gw23 => ?_)
  refine Sm.b (y_X6_init ha (gw22.nr ha) gw23) ?_
  rintro v24 v24' gv24
  refine Sm.b (Sm.pf gv24 gt (okV_r (gw22.nr ha))) ?_
  rintro w25 w25' gw25
  refine Sm.n ha gw25 okO_q (fun w26 w26' gw26 => ?_)
  refine Sm.b (Sm.pf gw26 gt (okV_r (gw25.nr ha))) ?_
  rintro w27 w27' gw27
  refine Sm.n ha gw27 (okO_l rfl) (fun w28 w28' gw28 => ?_)
  refine Sm.b (y_X5_init ha (gw27.nr ha) gw28) ?_
  rintro v29 v29' gv29
  refine Sm.b (Sm.pf gv29 gt (okV_r (gw27.nr ha))) ?_
  rintro w30 w30' gw30
  refine Sm.n ha gw30 (okO_l rfl) (fun w31 w31' gw31 => ?_)
  refine Sm.b (y_X5_init ha (gw30.nr ha) gw31) ?_
  rintro v32 v32' gv32
  refine Sm.b (Sm.pf gv32 gt (okV_r (gw30.nr ha))) ?_
  rintro w33 w33' gw33
  refine Sm.n ha gw33 (okO_l rfl) (fun w34 w34' gw34 => ?_)
  refine Sm.b (y_X7_init ha (gw33.nr ha) gw34) ?_
  rintro v35 v35' gv35
  refine Sm.b (Sm.pf gv35 gt (okV_r (gw33.nr ha))) ?_
  rintro w36 w36' gw36
  refine Sm.b (Sm.pf gw36 gt okV_n) ?_
  rintro w37 w37' gw37
  refine Sm.b (Sm.pf gw37 gt (okV_i _)) ?_
  rintro w38 w38' gw38
  refine Sm.b (Sm.pf gw38 gt (okV_i _)) ?_
  rintro w39 w39' gw39
  refine Sm.b (Sm.pf gw39 gt (okV_i _)) ?_
  rintro w40 w40' gw40
  refine Sm.b (Sm.pf gw40 gt (okV_l _)) ?_
  rintro w41 w41' gw41
  refine Sm.b (Sm.pf gw41 gt (okV_l _)) ?_
  rintro w42 w42' gw42
  refine Sm.b (Sm.pf gw42 gt (okV_i _)) ?_
  rintro w43 w43' gw43
  refine Sm.b (Sm.pf gw43 gt (okV_i _)) ?_
  rintro w44 w44' gw44
  refine Sm.b (Sm.gr gw44 gt) ?_
  rintro k45 k45' gk45
  refine Sm.b (Sm.is gw44 gk45) ?_
  intro _ _ _
  refine Sm.b (y_X8_make gk45 gw44) ?_
  rintro ⟨v46a, v46b⟩ ⟨_, v46b'⟩ ⟨rfl, gv46b⟩
  refine Sm.b (Sm.gr gv46b gt) ?_
  rintro k48 k48' gk48
  refine Sm.b (Sm.is gv46b gk48) ?_
  intro _ _ _
  refine Sm.b (y_X8_layOut gk48 gv46b) ?_
  rintro v49 v49' gv49
  refine Sm.b (Sm.gr gv49 gt) ?_
  rintro k51 k51' gk51
  refine Sm.b (Sm.is gv49 gk51) ?_
  intro _ _ _
  refine Sm.b (y_X8_numberAnew gk51 gv49) ?_
  rintro v52 v52' gv52
  refine Sm.b (Sm.gr gv52 gt) ?_
  rintro k54 k54' gk54
  refine Sm.b (Sm.gr gv52 gt) ?_
  rintro k55 k55' gk55
  refine Sm.b (Sm.gr gv52 gk55) ?_
  rintro k56 k56' gk56
  refine Sm.b (Sm.is gv52 gk56) ?_
  intro _ _ _
  refine Sm.b (y_X3_everything gk56 gv52) ?_
  rintro v57 _ rfl
  refine Sm.b (Sm.is gv52 gk54) ?_
  intro _ _ _
  refine Sm.b (y_X2_start gk54 gv52) ?_
  rintro v59 v59' gv59
  exact Sm.s gv59
set_option maxHeartbeats 2000000 in
theorem y_X10_needNode {t t' : Nat} {a1 : Int32} {h h' : tq_H} (gt : (Rr r d) t t') (gh : (Em r d W0 H0 al) h h') : Sm (Rp (Ru Eq Eq) (Em r d W0 H0 al)) (f_X10_needNode t a1 h) (f_X10_needNode t' a1 h') := by
  unfold f_X10_needNode
  refine Sm.b (Sm.gr gh gt) ?_
  rintro k1 k1' gk1
  refine Sm.b (Sm.gr gh gk1) ?_
  rintro k2 k2' gk2
  refine Sm.b (Sm.is gh gk2) ?_
  intro _ _ _
  refine Sm.b (y_X3_holds gk2 gh) ?_
  rintro v3 _ rfl
  refine Sm.i ?_ ?_
  · exact Sm.s (Rp.i (Ru.l rfl) gh)
  · exact Sm.s (Rp.i (Ru.r rfl) gh)
set_option maxHeartbeats 2000000 in
theorem y_X10_needPlaceIn {t t' : Nat} {a1 : Int32} {a2 : Int32} {h h' : tq_H} (gt : (Rr r d) t t') (gh : (Em r d W0 H0 al) h h') : Sm (Rp (Ru Eq Eq) (Em r d W0 H0 al)) (f_X10_needPlaceIn t a1 a2 h) (f_X10_needPlaceIn t' a1 a2 h') := by
  unfold f_X10_needPlaceIn
  refine Sm.b (Sm.is gh gt) ?_
  intro _ _ _
  refine Sm.tb (y_X10_needNode gt gh) ?_
  rintro _ _ _ w3 w3' gw3
  refine Sm.i ?_ ?_
  · exact Sm.s (Rp.i (Ru.l rfl) gw3)
  · refine Sm.b (Sm.gr gw3 gt) ?_
    rintro k4 k4' gk4
    refine Sm.b (Sm.gr gw3 gk4) ?_
    rintro k5 k5' gk5
    refine Sm.b (Sm.is gw3 gk5) ?_
    intro _ _ _
    refine Sm.b (y_X3_childCount gk5 gw3) ?_
    rintro v6 _ rfl
    refine Sm.i ?_ ?_
    · exact Sm.s (Rp.i (Ru.r rfl) gw3)
    · exact Sm.s (Rp.i (Ru.l rfl) gw3)
set_option maxHeartbeats 2000000 in
theorem y_X10_needRange {t t' : Nat} {a1 : Int32} {a2 : Int32} {a3 : Int32} {h h' : tq_H} (gt : (Rr r d) t t') (gh : (Em r d W0 H0 al) h h') : Sm (Rp (Ru Eq Eq) (Em r d W0 H0 al)) (f_X10_needRange t a1 a2 a3 h) (f_X10_needRange t' a1 a2 a3 h') := by
  unfold f_X10_needRange
  refine Sm.i ?_ ?_
  · exact Sm.s (Rp.i (Ru.l rfl) gh)
  · refine Sm.i ?_ ?_
    · exact Sm.s (Rp.i (Ru.r rfl) gh)
    · exact Sm.s (Rp.i (Ru.l rfl) gh)
set_option maxHeartbeats 2000000 in
theorem y_X10_needElement {t t' : Nat} {a1 : Int32} {h h' : tq_H} (gt : (Rr r d) t t') (gh : (Em r d W0 H0 al) h h') : Sm (Rp (Ru Eq Eq) (Em r d W0 H0 al)) (f_X10_needElement t a1 h) (f_X10_needElement t' a1 h') := by
  unfold f_X10_needElement
  refine Sm.b (Sm.gr gh gt) ?_
  rintro k1 k1' gk1
  refine Sm.b (Sm.gr gh gk1) ?_
  rintro k2 k2' gk2
  refine Sm.b (Sm.is gh gk2) ?_
  intro _ _ _
  refine Sm.b (y_X5_get gk2 gh) ?_
  rintro v3 _ rfl
  refine Sm.i ?_ ?_
  · exact Sm.s (Rp.i (Ru.r rfl) gh)
  · exact Sm.s (Rp.i (Ru.l rfl) gh)
set_option maxHeartbeats 2000000 in
theorem y_X10_needRoom {t t' : Nat} {h h' : tq_H} (gt : (Rr r d) t t') (gh : (Em r d W0 H0 al) h h') : Sm (Rp (Ru Eq Eq) (Em r d W0 H0 al)) (f_X10_needRoom t h) (f_X10_needRoom t' h') := by
  unfold f_X10_needRoom
  refine Sm.b (Sm.gr gh gt) ?_
  rintro k1 k1' gk1
  refine Sm.b (Sm.is gh gk1) ?_
  intro _ _ _
  refine Sm.b (y_X9_count gk1 gh) ?_
  rintro v2 _ rfl
  refine Sm.i ?_ ?_
  · exact Sm.s (Rp.i (Ru.r rfl) gh)
  · exact Sm.s (Rp.i (Ru.l rfl) gh)
set_option maxHeartbeats 2000000 in
theorem y_X10_insertElement {t t' : Nat} {a1 : Int32} {a2 : Int32} {a3 : Int32} {h h' : tq_H} (gt : (Rr r d) t t') (gh : (Em r d W0 H0 al) h h') : Sm (Rp (Ru Eq Eq) (Em r d W0 H0 al)) (f_X10_insertElement t a1 a2 a3 h) (f_X10_insertElement t' a1 a2 a3 h') := by
  unfold f_X10_insertElement
  refine Sm.b (Sm.is gh gt) ?_
  intro _ _ _
  refine Sm.tb (y_X10_needPlaceIn gt gh) ?_
  rintro _ _ _ w3 w3' gw3
  refine Sm.b (Sm.is gw3 gt) ?_
  intro _ _ _
  refine Sm.tb (y_X10_needRange gt gw3) ?_
  rintro _ _ _ w6 w6' gw6
  refine Sm.b (Sm.is gw6 gt) ?_
  intro _ _ _
  refine Sm.tb (y_X10_needElement gt gw6) ?_
  rintro _ _ _ w9 w9' gw9
  refine Sm.b (Sm.is gw9 gt) ?_
  intro _ _ _
  refine Sm.tb (y_X10_needRoom gt gw9) ?_
  rintro _ _ _ w12 w12' gw12
  refine Sm.b (Sm.gr gw12 gt) ?_
  rintro k13 k13' gk13
  refine Sm.b (Sm.is gw12 gk13) ?_
  intro _ _ _
  refine Sm.b (y_X9_addInsert gk13 gw12) ?_
  rintro ⟨v14a, v14b⟩ ⟨_, v14b'⟩ ⟨rfl, gv14b⟩
  exact Sm.s (Rp.i (Ru.r rfl) gv14b)
set_option maxHeartbeats 2000000 in
theorem y_X10_insertText {t t' : Nat} {a1 : Int32} {a2 : Int32} {a3 : Int32} {h h' : tq_H} (gt : (Rr r d) t t') (gh : (Em r d W0 H0 al) h h') : Sm (Rp (Ru Eq Eq) (Em r d W0 H0 al)) (f_X10_insertText t a1 a2 a3 h) (f_X10_insertText t' a1 a2 a3 h') := by
  unfold f_X10_insertText
  refine Sm.b (Sm.is gh gt) ?_
  intro _ _ _
  refine Sm.tb (y_X10_needPlaceIn gt gh) ?_
  rintro _ _ _ w3 w3' gw3
  refine Sm.b (Sm.is gw3 gt) ?_
  intro _ _ _
  refine Sm.tb (y_X10_needRange gt gw3) ?_
  rintro _ _ _ w6 w6' gw6
  refine Sm.b (Sm.is gw6 gt) ?_
  intro _ _ _
  refine Sm.tb (y_X10_needElement gt gw6) ?_
  rintro _ _ _ w9 w9' gw9
  refine Sm.b (Sm.is gw9 gt) ?_
  intro _ _ _
  refine Sm.tb (y_X10_needRoom gt gw9) ?_
  rintro _ _ _ w12 w12' gw12
  refine Sm.b (Sm.gr gw12 gt) ?_
  rintro k13 k13' gk13
  refine Sm.b (Sm.is gw12 gk13) ?_
  intro _ _ _
  refine Sm.b (y_X9_addInsert gk13 gw12) ?_
  rintro ⟨v14a, v14b⟩ ⟨_, v14b'⟩ ⟨rfl, gv14b⟩
  exact Sm.s (Rp.i (Ru.r rfl) gv14b)
set_option maxHeartbeats 2000000 in
theorem y_X10_insertAttribute {t t' : Nat} {a1 : Int32} {a2 : Int32} {a3 : Int32} {h h' : tq_H} (gt : (Rr r d) t t') (gh : (Em r d W0 H0 al) h h') : Sm (Rp (Ru Eq Eq) (Em r d W0 H0 al)) (f_X10_insertAttribute t a1 a2 a3 h) (f_X10_insertAttribute t' a1 a2 a3 h') := by
  unfold f_X10_insertAttribute
  refine Sm.b (Sm.is gh gt) ?_
  intro _ _ _
  refine Sm.tb (y_X10_needNode gt gh) ?_
  rintro _ _ _ w3 w3' gw3
  refine Sm.b (Sm.is gw3 gt) ?_
  intro _ _ _
  refine Sm.tb (y_X10_needRange gt gw3) ?_
  rintro _ _ _ w6 w6' gw6
  refine Sm.b (Sm.is gw6 gt) ?_
  intro _ _ _
  refine Sm.tb (y_X10_needRange gt gw6) ?_
  rintro _ _ _ w9 w9' gw9
  refine Sm.b (Sm.is gw9 gt) ?_
  intro _ _ _
  refine Sm.tb (y_X10_needElement gt gw9) ?_
  rintro _ _ _ w12 w12' gw12
  refine Sm.b (Sm.is gw12 gt) ?_
  intro _ _ _
  refine Sm.tb (y_X10_needRoom gt gw12) ?_
  rintro _ _ _ w15 w15' gw15
  refine Sm.b (Sm.gr gw15 gt) ?_
  rintro k16 k16' gk16
  refine Sm.b (Sm.is gw15 gk16) ?_
  intro _ _ _
  refine Sm.b (y_X9_addInsert gk16 gw15) ?_
  rintro ⟨v17a, v17b⟩ ⟨_, v17b'⟩ ⟨rfl, gv17b⟩
  exact Sm.s (Rp.i (Ru.r rfl) gv17b)
set_option maxHeartbeats 2000000 in
theorem y_X10_remove {t t' : Nat} {a1 : Int32} {h h' : tq_H} (gt : (Rr r d) t t') (gh : (Em r d W0 H0 al) h h') : Sm (Rp (Ru Eq Eq) (Em r d W0 H0 al)) (f_X10_remove t a1 h) (f_X10_remove t' a1 h') := by
  unfold f_X10_remove
  refine Sm.b (Sm.is gh gt) ?_
  intro _ _ _
  refine Sm.tb (y_X10_needNode gt gh) ?_
  rintro _ _ _ w3 w3' gw3
  refine Sm.i ?_ ?_
  · exact Sm.s (Rp.i (Ru.l rfl) gw3)
  · refine Sm.b (Sm.is gw3 gt) ?_
    intro _ _ _
    refine Sm.tb (y_X10_needRoom gt gw3) ?_
    rintro _ _ _ w6 w6' gw6
    refine Sm.b (Sm.gr gw6 gt) ?_
    rintro k7 k7' gk7
    refine Sm.b (Sm.is gw6 gk7) ?_
    intro _ _ _
    refine Sm.b (y_X9_addChange gk7 gw6) ?_
    rintro ⟨v8a, v8b⟩ ⟨_, v8b'⟩ ⟨rfl, gv8b⟩
    exact Sm.s (Rp.i (Ru.r rfl) gv8b)
set_option maxHeartbeats 2000000 in
theorem y_X10_rename {t t' : Nat} {a1 : Int32} {a2 : Int32} {h h' : tq_H} (gt : (Rr r d) t t') (gh : (Em r d W0 H0 al) h h') : Sm (Rp (Ru Eq Eq) (Em r d W0 H0 al)) (f_X10_rename t a1 a2 h) (f_X10_rename t' a1 a2 h') := by
  unfold f_X10_rename
  refine Sm.b (Sm.is gh gt) ?_
  intro _ _ _
  refine Sm.tb (y_X10_needNode gt gh) ?_
  rintro _ _ _ w3 w3' gw3
  refine Sm.b (Sm.is gw3 gt) ?_
  intro _ _ _
  refine Sm.tb (y_X10_needRange gt gw3) ?_
  rintro _ _ _ w6 w6' gw6
  refine Sm.b (Sm.gr gw6 gt) ?_
  rintro k7 k7' gk7
  refine Sm.b (Sm.gr gw6 gk7) ?_
  rintro k8 k8' gk8
  refine Sm.b (Sm.is gw6 gk8) ?_
  intro _ _ _
  refine Sm.b (y_X5_get gk8 gw6) ?_
  rintro v9 _ rfl
  refine Sm.i ?_ ?_
  · exact Sm.s (Rp.i (Ru.l rfl) gw6)
  · refine Sm.b (Sm.is gw6 gt) ?_
    intro _ _ _
    refine Sm.tb (y_X10_needRoom gt gw6) ?_
    rintro _ _ _ w13 w13' gw13
    refine Sm.b (Sm.gr gw13 gt) ?_
    rintro k14 k14' gk14
    refine Sm.b (Sm.is gw13 gk14) ?_
    intro _ _ _
    refine Sm.b (y_X9_addChange gk14 gw13) ?_
    rintro ⟨v15a, v15b⟩ ⟨_, v15b'⟩ ⟨rfl, gv15b⟩
    exact Sm.s (Rp.i (Ru.r rfl) gv15b)
set_option maxHeartbeats 2000000 in
theorem y_X10_setValue {t t' : Nat} {a1 : Int32} {a2 : Int32} {h h' : tq_H} (gt : (Rr r d) t t') (gh : (Em r d W0 H0 al) h h') : Sm (Rp (Ru Eq Eq) (Em r d W0 H0 al)) (f_X10_setValue t a1 a2 h) (f_X10_setValue t' a1 a2 h') := by
  unfold f_X10_setValue
  refine Sm.b (Sm.is gh gt) ?_
  intro _ _ _
  refine Sm.tb (y_X10_needNode gt gh) ?_
  rintro _ _ _ w3 w3' gw3
  refine Sm.b (Sm.is gw3 gt) ?_
  intro _ _ _
  refine Sm.tb (y_X10_needRange gt gw3) ?_
  rintro _ _ _ w6 w6' gw6
  refine Sm.b (Sm.gr gw6 gt) ?_
  rintro k7 k7' gk7
  refine Sm.b (Sm.gr gw6 gk7) ?_
  rintro k8 k8' gk8
  refine Sm.b (Sm.is gw6 gk8) ?_
  intro _ _ _
  refine Sm.b (y_X5_get gk8 gw6) ?_
  rintro v9 _ rfl
  refine Sm.i ?_ ?_
  · exact Sm.s (Rp.i (Ru.l rfl) gw6)
  · refine Sm.b (Sm.is gw6 gt) ?_
    intro _ _ _
    refine Sm.tb (y_X10_needRoom gt gw6) ?_
    rintro _ _ _ w13 w13' gw13
    refine Sm.b (Sm.gr gw13 gt) ?_
    rintro k14 k14' gk14
    refine Sm.b (Sm.is gw13 gk14) ?_
    intro _ _ _
    refine Sm.b (y_X9_addChange gk14 gw13) ?_
    rintro ⟨v15a, v15b⟩ ⟨_, v15b'⟩ ⟨rfl, gv15b⟩
    exact Sm.s (Rp.i (Ru.r rfl) gv15b)
set_option maxHeartbeats 2000000 in
theorem y_X10_move {t t' : Nat} {a1 : Int32} {a2 : Int32} {a3 : Int32} {h h' : tq_H} (gt : (Rr r d) t t') (gh : (Em r d W0 H0 al) h h') : Sm (Rp (Ru Eq Eq) (Em r d W0 H0 al)) (f_X10_move t a1 a2 a3 h) (f_X10_move t' a1 a2 a3 h') := by
  unfold f_X10_move
  refine Sm.b (Sm.is gh gt) ?_
  intro _ _ _
  refine Sm.tb (y_X10_needNode gt gh) ?_
  rintro _ _ _ w3 w3' gw3
  refine Sm.b (Sm.is gw3 gt) ?_
  intro _ _ _
  refine Sm.tb (y_X10_needPlaceIn gt gw3) ?_
  rintro _ _ _ w6 w6' gw6
  refine Sm.i ?_ ?_
  · exact Sm.s (Rp.i (Ru.l rfl) gw6)
  · refine Sm.b (Sm.gr gw6 gt) ?_
    rintro k7 k7' gk7
    refine Sm.b (Sm.gr gw6 gk7) ?_
    rintro k8 k8' gk8
    refine Sm.b (Sm.is gw6 gk8) ?_
    intro _ _ _
    refine Sm.b (y_X5_get gk8 gw6) ?_
    rintro v9 _ rfl
    refine Sm.i ?_ ?_
    · exact Sm.s (Rp.i (Ru.l rfl) gw6)
    · refine Sm.b (Sm.is gw6 gt) ?_
      intro _ _ _
      refine Sm.tb (y_X10_needElement gt gw6) ?_
      rintro _ _ _ w13 w13' gw13
      refine Sm.b (Sm.is gw13 gt) ?_
      intro _ _ _
      refine Sm.tb (y_X10_needRoom gt gw13) ?_
      rintro _ _ _ w16 w16' gw16
      refine Sm.b (Sm.gr gw16 gt) ?_
      rintro k17 k17' gk17
      refine Sm.b (Sm.is gw16 gk17) ?_
      intro _ _ _
      refine Sm.b (y_X9_addMove gk17 gw16) ?_
      rintro ⟨v18a, v18b⟩ ⟨_, v18b'⟩ ⟨rfl, gv18b⟩
      exact Sm.s (Rp.i (Ru.r rfl) gv18b)
set_option maxHeartbeats 2000000 in
theorem y_X10_declare {t t' : Nat} {a1 : Int32} {a2 : Int32} {h h' : tq_H} (gt : (Rr r d) t t') (gh : (Em r d W0 H0 al) h h') : Sm (Rp (Ru Eq Eq) (Em r d W0 H0 al)) (f_X10_declare t a1 a2 h) (f_X10_declare t' a1 a2 h') := by
  unfold f_X10_declare
  refine Sm.b (Sm.is gh gt) ?_
  intro _ _ _
  refine Sm.tb (y_X10_needNode gt gh) ?_
  rintro _ _ _ w3 w3' gw3
  refine Sm.b (Sm.is gw3 gt) ?_
  intro _ _ _
  refine Sm.tb (y_X10_needRange gt gw3) ?_
  rintro _ _ _ w6 w6' gw6
  refine Sm.b (Sm.is gw6 gt) ?_
  intro _ _ _
  refine Sm.tb (y_X10_needElement gt gw6) ?_
  rintro _ _ _ w9 w9' gw9
  refine Sm.b (Sm.is gw9 gt) ?_
  intro _ _ _
  refine Sm.tb (y_X10_needRoom gt gw9) ?_
  rintro _ _ _ w12 w12' gw12
  refine Sm.b (Sm.gr gw12 gt) ?_
  rintro k13 k13' gk13
  refine Sm.b (Sm.is gw12 gk13) ?_
  intro _ _ _
  refine Sm.b (y_X9_addChange gk13 gw12) ?_
  rintro ⟨v14a, v14b⟩ ⟨_, v14b'⟩ ⟨rfl, gv14b⟩
  exact Sm.s (Rp.i (Ru.r rfl) gv14b)
set_option maxHeartbeats 2000000 in
theorem y_X10_viewedNodes {t t' : Nat} {a1 : Int32} {h h' : tq_H} (gt : (Rr r d) t t') (gh : (Em r d W0 H0 al) h h') : Sm Eq (f_X10_viewedNodes t a1 h) (f_X10_viewedNodes t' a1 h') := by
  unfold f_X10_viewedNodes
  refine Sm.b (Sm.gr gh gt) ?_
  rintro k1 k1' gk1
  refine Sm.b (Sm.gr gh gk1) ?_
  rintro k2 k2' gk2
  refine Sm.b (Sm.gr gh gt) ?_
  rintro k3 k3' gk3
  refine Sm.b (Sm.gr gh gt) ?_
  rintro k4 k4' gk4
  refine Sm.b (Sm.is gh gk4) ?_
  intro _ _ _
  refine Sm.b (y_X5_get gk4 gh) ?_
  rintro v5 _ rfl
  refine Sm.b (Sm.is gh gk3) ?_
  intro _ _ _
  refine Sm.b (y_X2_foundFrom gk3 gh) ?_
  rintro v7 _ rfl
  refine Sm.b (Sm.is gh gk2) ?_
  intro _ _ _
  refine Sm.b (y_X3_nodesOf gk2 gh) ?_
  rintro v9 _ rfl
  exact Sm.s rfl
set_option maxHeartbeats 2000000 in
theorem y_X10_settle_b2 {i0 i0' : Nat} (gi0 : (Rr r d) i0 i0') : ∀ s s', (Rp Eq (Em r d W0 H0 al)) s s' → Sm (Ru (Rp Eq (Em r d W0 H0 al)) (Em r d W0 H0 al)) (f_X10_settle_b2 i0 s) (f_X10_settle_b2 i0' s') := by
  rintro ⟨y1, hh⟩ ⟨_, hh'⟩ ⟨rfl, ghh⟩
  dsimp only [f_X10_settle_b2]
  refine Sm.b (Sm.gi ghh gi0) ?_
  rintro x1 _ rfl
  refine Sm.i ?_ ?_
  · exact Sm.s (Ru.r ghh)
  · refine Sm.b (Sm.gr ghh gi0) ?_
    rintro k2 k2' gk2
    refine Sm.b (Sm.gr ghh gi0) ?_
    rintro k3 k3' gk3
    refine Sm.b (Sm.is ghh gk3) ?_
    intro _ _ _
    refine Sm.b (y_X5_get gk3 ghh) ?_
    rintro v4 _ rfl
    refine Sm.b (Sm.is ghh gk2) ?_
    intro _ _ _
    refine Sm.b (y_X2_prepare gk2 ghh) ?_
    rintro v6 v6' gv6
    refine Sm.b (Sm.gr gv6 gi0) ?_
    rintro k8 k8' gk8
    refine Sm.b (Sm.is gv6 gi0) ?_
    intro _ _ _
    refine Sm.b (y_X10_viewedNodes gi0 gv6) ?_
    rintro v9 _ rfl
    refine Sm.b (Sm.is gv6 gk8) ?_
    intro _ _ _
    refine Sm.b (y_X7_set gk8 gv6) ?_
    rintro v11 v11' gv11
    refine Sm.l ?_
    exact Sm.s (Ru.l (Rp.i rfl gv11))
set_option maxHeartbeats 2000000 in
theorem y_X10_settle_b79 {i0 i0' : Nat} (gi0 : (Rr r d) i0 i0') : ∀ s s', (Rp Eq (Em r d W0 H0 al)) s s' → Sm (Ru (Rp Eq (Em r d W0 H0 al)) (Em r d W0 H0 al)) (f_X10_settle_b79 i0 s) (f_X10_settle_b79 i0' s') := by
  rintro ⟨y1, hh⟩ ⟨_, hh'⟩ ⟨rfl, ghh⟩
  dsimp only [f_X10_settle_b79]
  refine Sm.b (Sm.gi ghh gi0) ?_
  rintro x27 _ rfl
  refine Sm.i ?_ ?_
  · exact Sm.s (Ru.r ghh)
  · refine Sm.b (Sm.gr ghh gi0) ?_
    rintro k28 k28' gk28
    refine Sm.b (Sm.gr ghh gi0) ?_
    rintro k29 k29' gk29
    refine Sm.b (Sm.is ghh gk29) ?_
    intro _ _ _
    refine Sm.b (y_X5_get gk29 ghh) ?_
    rintro v30 _ rfl
    refine Sm.b (Sm.is ghh gk28) ?_
    intro _ _ _
    refine Sm.b (y_X2_prepare gk28 ghh) ?_
    rintro v32 v32' gv32
    refine Sm.b (Sm.gr gv32 gi0) ?_
    rintro k34 k34' gk34
    refine Sm.b (Sm.gr gv32 gi0) ?_
    rintro k35 k35' gk35
    refine Sm.b (Sm.is gv32 gk35) ?_
    intro _ _ _
    refine Sm.b (y_X7_get gk35 gv32) ?_
    rintro v36 _ rfl
    refine Sm.b (Sm.is gv32 gi0) ?_
    intro _ _ _
    refine Sm.b (y_X10_viewedNodes gi0 gv32) ?_
    rintro v38 _ rfl
    refine Sm.b (y_J13_bitCount_95d88 gv32) ?_
    rintro v40 _ rfl
    refine Sm.b (Sm.is gv32 gk34) ?_
    intro _ _ _
    refine Sm.b (y_X5_set gk34 gv32) ?_
    rintro v41 v41' gv41
    refine Sm.l ?_
    exact Sm.s (Ru.l (Rp.i rfl gv41))
set_option maxHeartbeats 2000000 in
theorem y_X10_settle {t t' : Nat} {h h' : tq_H} (gt : (Rr r d) t t') (gh : (Em r d W0 H0 al) h h') : Sm (Em r d W0 H0 al) (f_X10_settle t h) (f_X10_settle t' h') := by
  unfold f_X10_settle
  refine Sm.b (Sm.w (y_X10_settle_b2 gt) tq_N (Rp.i rfl gh)) ?_
  rintro o14 o14' go14
  refine Sm.b (Sm.gr go14 gt) ?_
  rintro k15 k15' gk15
  refine Sm.b (Sm.gr go14 gt) ?_
  rintro k16 k16' gk16
  refine Sm.b (Sm.is go14 gk15) ?_
  intro _ _ _
  refine Sm.b (y_X8_copy gk15 gk16 go14) ?_
  rintro v17 v17' gv17
  refine Sm.b (Sm.gr gv17 gt) ?_
  rintro k19 k19' gk19
  refine Sm.b (Sm.gr gv17 gt) ?_
  rintro k20 k20' gk20
  refine Sm.b (Sm.gr gv17 gk20) ?_
  rintro k21 k21' gk21
  refine Sm.b (Sm.is gv17 gk21) ?_
  intro _ _ _
  refine Sm.b (y_X3_everything gk21 gv17) ?_
  rintro v22 _ rfl
  refine Sm.b (Sm.is gv17 gk19) ?_
  intro _ _ _
  refine Sm.b (y_X2_start gk19 gv17) ?_
  rintro v24 v24' gv24
  refine Sm.b (Sm.pf gv24 gt (okV_i _)) ?_
  rintro w26 w26' gw26
  refine Sm.b (Sm.w (y_X10_settle_b79 gt) tq_N (Rp.i rfl gw26)) ?_
  rintro o44 o44' go44
  exact Sm.s go44
set_option maxHeartbeats 2000000 in
theorem y_X10_apply {t t' : Nat} {h h' : tq_H} (gt : (Rr r d) t t') (gh : (Em r d W0 H0 al) h h') : Sm (Rp (Ru Eq Eq) (Em r d W0 H0 al)) (f_X10_apply t h) (f_X10_apply t' h') := by
  unfold f_X10_apply
  refine Sm.b (Sm.gr gh gt) ?_
  rintro k1 k1' gk1
  refine Sm.b (Sm.gr gh gt) ?_
  rintro k2 k2' gk2
  refine Sm.b (Sm.is gh gk1) ?_
  intro _ _ _
  refine Sm.b (y_X9_canBeDone gk1 gk2 gh) ?_
  rintro v3 _ rfl
  refine Sm.i ?_ ?_
  · exact Sm.s (Rp.i (Ru.l rfl) gh)
  · refine Sm.b (Sm.gr gh gt) ?_
    rintro k5 k5' gk5
    refine Sm.b (Sm.gr gh gt) ?_
    rintro k6 k6' gk6
    refine Sm.b (Sm.gr gh gt) ?_
    rintro k7 k7' gk7
    refine Sm.b (Sm.is gh gk5) ?_
    intro _ _ _
    refine Sm.b (y_X9_build gk5 gk6 gk7 gh) ?_
    rintro v8 v8' gv8
    refine Sm.b (Sm.gr gv8 gt) ?_
    rintro k10 k10' gk10
    refine Sm.b (Sm.is gv8 gk10) ?_
    intro _ _ _
    refine Sm.b (y_X8_isTangled gk10 gv8) ?_
    rintro v11 _ rfl
    refine Sm.i ?_ ?_
    · refine Sm.b (Sm.gr gv8 gt) ?_
      rintro k13 k13' gk13
      refine Sm.b (Sm.is gv8 gk13) ?_
      intro _ _ _
      refine Sm.b (y_X8_hasTwins gk13 gv8) ?_
      rintro v14 _ rfl
      refine Sm.i ?_ ?_
      · refine Sm.b (Sm.gr gv8 gt) ?_
        rintro k16 k16' gk16
        refine Sm.b (Sm.is gv8 gk16) ?_
        intro _ _ _
        refine Sm.b (y_X6_isStrict gk16 gv8) ?_
        rintro v17 _ rfl
        refine Sm.i ?_ ?_
        · refine Sm.b (Sm.gr gv8 gt) ?_
          rintro k19 k19' gk19
          refine Sm.b (Sm.gr gv8 gt) ?_
          rintro k20 k20' gk20
          refine Sm.b (Sm.is gv8 gk20) ?_
          intro _ _ _
          refine Sm.b (y_X9_fresh gk20 gv8) ?_
          rintro v21 _ rfl
          refine Sm.b (Sm.is gv8 gk19) ?_
          intro _ _ _
          refine Sm.b (y_X8_numberFresh gk19 gv8) ?_
          rintro ⟨v23a, v23b⟩ ⟨_, v23b'⟩ ⟨rfl, gv23b⟩
          refine Sm.b (R := (Em r d W0 H0 al)) ?_ ?_
          · refine Sm.i ?_ ?_
            · refine Sm.b (Sm.gr gv23b gt) ?_
              rintro k25 k25' gk25
              refine Sm.b (Sm.is gv23b gk25) ?_
              intro _ _ _
              refine Sm.b (y_X8_numberAnew gk25 gv23b) ?_
              rintro v26 v26' gv26
              refine Sm.b (Sm.gi gv26 gt) ?_
              rintro x28 _ rfl
              refine Sm.b (Sm.pf gv26 gt (okV_i _)) ?_
              rintro w29 w29' gw29
              exact Sm.s gw29
            · exact Sm.s gv23b
          · rintro p30 p30' gp30
            refine Sm.b (Sm.is gp30 gt) ?_
            intro _ _ _
            refine Sm.b (y_X10_settle gt gp30) ?_
            rintro v31 v31' gv31
            refine Sm.b (Sm.gr gv31 gt) ?_
            rintro k33 k33' gk33
            refine Sm.b (Sm.is gv31 gk33) ?_
            intro _ _ _
            refine Sm.b (y_X9_empty gk33 gv31) ?_
            rintro ⟨v34a, v34b⟩ ⟨_, v34b'⟩ ⟨rfl, gv34b⟩
            refine Sm.b (Sm.gr gv34b gt) ?_
            rintro k36 k36' gk36
            refine Sm.b (Sm.gr gv34b gk36) ?_
            rintro k37 k37' gk37
            refine Sm.b (Sm.is gv34b gk37) ?_
            intro _ _ _
            refine Sm.b (y_X3_count gk37 gv34b) ?_
            rintro v38 _ rfl
            exact Sm.s (Rp.i (Ru.r rfl) gv34b)
        · refine Sm.b (Sm.gr gv8 gt) ?_
          rintro k40 k40' gk40
          refine Sm.b (Sm.gr gv8 gt) ?_
          rintro k41 k41' gk41
          refine Sm.b (Sm.is gv8 gk40) ?_
          intro _ _ _
          refine Sm.b (y_X6_admits gk40 gk41 gv8) ?_
          rintro ⟨v42a, v42b⟩ ⟨_, v42b'⟩ ⟨rfl, gv42b⟩
          refine Sm.i ?_ ?_
          · exact Sm.s (Rp.i (Ru.l rfl) gv42b)
          · refine Sm.b (Sm.gr gv42b gt) ?_
            rintro k44 k44' gk44
            refine Sm.b (Sm.gr gv42b gt) ?_
            rintro k45 k45' gk45
            refine Sm.b (Sm.is gv42b gk45) ?_
            intro _ _ _
            refine Sm.b (y_X9_fresh gk45 gv42b) ?_
            rintro v46 _ rfl
            refine Sm.b (Sm.is gv42b gk44) ?_
            intro _ _ _
            refine Sm.b (y_X8_numberFresh gk44 gv42b) ?_
            rintro ⟨v48a, v48b⟩ ⟨_, v48b'⟩ ⟨rfl, gv48b⟩
            refine Sm.b (R := (Em r d W0 H0 al)) ?_ ?_
            · refine Sm.i ?_ ?_
              · refine Sm.b (Sm.gr gv48b gt) ?_
                rintro k50 k50' gk50
                refine Sm.b (Sm.is gv48b gk50) ?_
                intro _ _ _
                refine Sm.b (y_X8_numberAnew gk50 gv48b) ?_
                rintro v51 v51' gv51
                refine Sm.b (Sm.gi gv51 gt) ?_
                rintro x53 _ rfl
                refine Sm.b (Sm.pf gv51 gt (okV_i _)) ?_
                rintro w54 w54' gw54
                exact Sm.s gw54
              · exact Sm.s gv48b
            · rintro p55 p55' gp55
              refine Sm.b (Sm.is gp55 gt) ?_
              intro _ _ _
              refine Sm.b (y_X10_settle gt gp55) ?_
              rintro v56 v56' gv56
              refine Sm.b (Sm.gr gv56 gt) ?_
              rintro k58 k58' gk58
              refine Sm.b (Sm.is gv56 gk58) ?_
              intro _ _ _
              refine Sm.b (y_X9_empty gk58 gv56) ?_
              rintro ⟨v59a, v59b⟩ ⟨_, v59b'⟩ ⟨rfl, gv59b⟩
              refine Sm.b (Sm.gr gv59b gt) ?_
              rintro k61 k61' gk61
              refine Sm.b (Sm.gr gv59b gk61) ?_
              rintro k62 k62' gk62
              refine Sm.b (Sm.is gv59b gk62) ?_
              intro _ _ _
              refine Sm.b (y_X3_count gk62 gv59b) ?_
              rintro v63 _ rfl
              exact Sm.s (Rp.i (Ru.r rfl) gv59b)
      · exact Sm.s (Rp.i (Ru.l rfl) gv8)
    · exact Sm.s (Rp.i (Ru.l rfl) gv8)
set_option maxHeartbeats 2000000 in
theorem y_X10_forget {t t' : Nat} {h h' : tq_H} (gt : (Rr r d) t t') (gh : (Em r d W0 H0 al) h h') : Sm (Rp Eq (Em r d W0 H0 al)) (f_X10_forget t h) (f_X10_forget t' h') := by
  unfold f_X10_forget
  refine Sm.b (Sm.gr gh gt) ?_
  rintro k1 k1' gk1
  refine Sm.b (Sm.is gh gk1) ?_
  intro _ _ _
  refine Sm.b (y_X9_empty gk1 gh) ?_
  rintro ⟨v2a, v2b⟩ ⟨_, v2b'⟩ ⟨rfl, gv2b⟩
  exact Sm.s (Rp.i rfl gv2b)
set_option maxHeartbeats 2000000 in
theorem y_X10_made {t t' : Nat} {h h' : tq_H} (gt : (Rr r d) t t') (gh : (Em r d W0 H0 al) h h') : Sm Eq (f_X10_made t h) (f_X10_made t' h') := by
  unfold f_X10_made
  refine Sm.b (Sm.gr gh gt) ?_
  rintro k1 k1' gk1
  refine Sm.b (Sm.is gh gk1) ?_
  intro _ _ _
  refine Sm.b (y_X8_madeCount gk1 gh) ?_
  rintro v2 _ rfl
  exact Sm.s rfl
set_option maxHeartbeats 2000000 in
theorem y_X10_nodes {t t' : Nat} {h h' : tq_H} (gt : (Rr r d) t t') (gh : (Em r d W0 H0 al) h h') : Sm Eq (f_X10_nodes t h) (f_X10_nodes t' h') := by
  unfold f_X10_nodes
  refine Sm.b (Sm.gr gh gt) ?_
  rintro k1 k1' gk1
  refine Sm.b (Sm.gr gh gk1) ?_
  rintro k2 k2' gk2
  refine Sm.b (Sm.is gh gk2) ?_
  intro _ _ _
  refine Sm.b (y_X3_count gk2 gh) ?_
  rintro v3 _ rfl
  exact Sm.s rfl
set_option maxHeartbeats 2000000 in
theorem y_X10_isThere {t t' : Nat} {a1 : Int32} {h h' : tq_H} (gt : (Rr r d) t t') (gh : (Em r d W0 H0 al) h h') : Sm Eq (f_X10_isThere t a1 h) (f_X10_isThere t' a1 h') := by
  unfold f_X10_isThere
  refine Sm.b (Sm.gr gh gt) ?_
  rintro k1 k1' gk1
  refine Sm.b (Sm.gr gh gk1) ?_
  rintro k2 k2' gk2
  refine Sm.b (Sm.is gh gk2) ?_
  intro _ _ _
  refine Sm.b (y_X3_holds gk2 gh) ?_
  rintro v3 _ rfl
  refine Sm.b (Sm.r) ?_
  rintro z5 _ rfl
  exact Sm.s rfl
set_option maxHeartbeats 2000000 in
theorem y_X10_kind {t t' : Nat} {a1 : Int32} {h h' : tq_H} (gt : (Rr r d) t t') (gh : (Em r d W0 H0 al) h h') : Sm (Rp (Ru Eq Eq) (Em r d W0 H0 al)) (f_X10_kind t a1 h) (f_X10_kind t' a1 h') := by
  unfold f_X10_kind
  refine Sm.b (Sm.is gh gt) ?_
  intro _ _ _
  refine Sm.tb (y_X10_needNode gt gh) ?_
  rintro _ _ _ w3 w3' gw3
  refine Sm.b (Sm.gr gw3 gt) ?_
  rintro k4 k4' gk4
  refine Sm.b (Sm.gr gw3 gk4) ?_
  rintro k5 k5' gk5
  refine Sm.b (Sm.is gw3 gk5) ?_
  intro _ _ _
  refine Sm.b (y_X5_get gk5 gw3) ?_
  rintro v6 _ rfl
  exact Sm.s (Rp.i (Ru.r rfl) gw3)
set_option maxHeartbeats 2000000 in
theorem y_X10_name {t t' : Nat} {a1 : Int32} {h h' : tq_H} (gt : (Rr r d) t t') (gh : (Em r d W0 H0 al) h h') : Sm (Rp (Ru Eq Eq) (Em r d W0 H0 al)) (f_X10_name t a1 h) (f_X10_name t' a1 h') := by
  unfold f_X10_name
  refine Sm.b (Sm.is gh gt) ?_
  intro _ _ _
  refine Sm.tb (y_X10_needNode gt gh) ?_
  rintro _ _ _ w3 w3' gw3
  refine Sm.b (Sm.gr gw3 gt) ?_
  rintro k4 k4' gk4
  refine Sm.b (Sm.gr gw3 gk4) ?_
  rintro k5 k5' gk5
  refine Sm.b (Sm.is gw3 gk5) ?_
  intro _ _ _
  refine Sm.b (y_X5_get gk5 gw3) ?_
  rintro v6 _ rfl
  exact Sm.s (Rp.i (Ru.r rfl) gw3)
set_option maxHeartbeats 2000000 in
theorem y_X10_value {t t' : Nat} {a1 : Int32} {h h' : tq_H} (gt : (Rr r d) t t') (gh : (Em r d W0 H0 al) h h') : Sm (Rp (Ru Eq Eq) (Em r d W0 H0 al)) (f_X10_value t a1 h) (f_X10_value t' a1 h') := by
  unfold f_X10_value
  refine Sm.b (Sm.is gh gt) ?_
  intro _ _ _
  refine Sm.tb (y_X10_needNode gt gh) ?_
  rintro _ _ _ w3 w3' gw3
  refine Sm.b (Sm.gr gw3 gt) ?_
  rintro k4 k4' gk4
  refine Sm.b (Sm.gr gw3 gt) ?_
  rintro k5 k5' gk5
  refine Sm.b (Sm.gr gw3 gk5) ?_
  rintro k6 k6' gk6
  refine Sm.b (Sm.is gw3 gk6) ?_
  intro _ _ _
  refine Sm.b (y_X3_spotOf gk6 gw3) ?_
  rintro v7 _ rfl
  refine Sm.b (Sm.gr gw3 gt) ?_
  rintro k9 k9' gk9
  refine Sm.b (Sm.gr gw3 gk9) ?_
  rintro k10 k10' gk10
  refine Sm.b (Sm.is gw3 gk10) ?_
  intro _ _ _
  refine Sm.b (y_X3_everything gk10 gw3) ?_
  rintro v11 _ rfl
  refine Sm.b (Sm.is gw3 gk4) ?_
  intro _ _ _
  refine Sm.b (y_X8_valueAt gk4 gw3) ?_
  rintro v13 _ rfl
  exact Sm.s (Rp.i (Ru.r rfl) gw3)
set_option maxHeartbeats 2000000 in
theorem y_X10_parent {t t' : Nat} {a1 : Int32} {h h' : tq_H} (gt : (Rr r d) t t') (gh : (Em r d W0 H0 al) h h') : Sm (Rp (Ru Eq Eq) (Em r d W0 H0 al)) (f_X10_parent t a1 h) (f_X10_parent t' a1 h') := by
  unfold f_X10_parent
  refine Sm.b (Sm.is gh gt) ?_
  intro _ _ _
  refine Sm.tb (y_X10_needNode gt gh) ?_
  rintro _ _ _ w3 w3' gw3
  refine Sm.b (Sm.gr gw3 gt) ?_
  rintro k4 k4' gk4
  refine Sm.b (Sm.gr gw3 gk4) ?_
  rintro k5 k5' gk5
  refine Sm.b (Sm.is gw3 gk5) ?_
  intro _ _ _
  refine Sm.b (y_X5_get gk5 gw3) ?_
  rintro v6 _ rfl
  exact Sm.s (Rp.i (Ru.r rfl) gw3)
set_option maxHeartbeats 2000000 in
theorem y_X10_needNotNegative {t t' : Nat} {a1 : Int32} {h h' : tq_H} (gt : (Rr r d) t t') (gh : (Em r d W0 H0 al) h h') : Sm (Rp (Ru Eq Eq) (Em r d W0 H0 al)) (f_X10_needNotNegative t a1 h) (f_X10_needNotNegative t' a1 h') := by
  unfold f_X10_needNotNegative
  refine Sm.i ?_ ?_
  · exact Sm.s (Rp.i (Ru.r rfl) gh)
  · exact Sm.s (Rp.i (Ru.l rfl) gh)
set_option maxHeartbeats 2000000 in
theorem y_X10_child {t t' : Nat} {a1 : Int32} {a2 : Int32} {h h' : tq_H} (gt : (Rr r d) t t') (gh : (Em r d W0 H0 al) h h') : Sm (Rp (Ru Eq Eq) (Em r d W0 H0 al)) (f_X10_child t a1 a2 h) (f_X10_child t' a1 a2 h') := by
  unfold f_X10_child
  refine Sm.b (Sm.is gh gt) ?_
  intro _ _ _
  refine Sm.tb (y_X10_needNode gt gh) ?_
  rintro _ _ _ w3 w3' gw3
  refine Sm.b (Sm.is gw3 gt) ?_
  intro _ _ _
  refine Sm.tb (y_X10_needNotNegative gt gw3) ?_
  rintro _ _ _ w6 w6' gw6
  refine Sm.b (Sm.gr gw6 gt) ?_
  rintro k7 k7' gk7
  refine Sm.b (Sm.gr gw6 gk7) ?_
  rintro k8 k8' gk8
  refine Sm.b (Sm.gr gw6 gt) ?_
  rintro k9 k9' gk9
  refine Sm.b (Sm.gr gw6 gk9) ?_
  rintro k10 k10' gk10
  refine Sm.b (Sm.gr gw6 gt) ?_
  rintro k11 k11' gk11
  refine Sm.b (Sm.gr gw6 gk11) ?_
  rintro k12 k12' gk12
  refine Sm.b (Sm.is gw6 gk12) ?_
  intro _ _ _
  refine Sm.b (y_X3_spotOf gk12 gw6) ?_
  rintro v13 _ rfl
  refine Sm.b (Sm.is gw6 gk10) ?_
  intro _ _ _
  refine Sm.b (y_X3_children gk10 gw6) ?_
  rintro v15 _ rfl
  refine Sm.b (Sm.is gw6 gk8) ?_
  intro _ _ _
  refine Sm.b (y_X3_nodeOfSet gk8 gw6) ?_
  rintro v17 _ rfl
  exact Sm.s (Rp.i (Ru.r rfl) gw6)
set_option maxHeartbeats 2000000 in
theorem y_X10_space {t t' : Nat} {a1 : Int32} {h h' : tq_H} (gt : (Rr r d) t t') (gh : (Em r d W0 H0 al) h h') : Sm (Rp (Ru Eq Eq) (Em r d W0 H0 al)) (f_X10_space t a1 h) (f_X10_space t' a1 h') := by
  unfold f_X10_space
  refine Sm.b (Sm.is gh gt) ?_
  intro _ _ _
  refine Sm.tb (y_X10_needNode gt gh) ?_
  rintro _ _ _ w3 w3' gw3
  refine Sm.b (Sm.gr gw3 gt) ?_
  rintro k4 k4' gk4
  refine Sm.b (Sm.gr gw3 gk4) ?_
  rintro k5 k5' gk5
  refine Sm.b (Sm.gr gw3 gt) ?_
  rintro k6 k6' gk6
  refine Sm.b (Sm.gr gw3 gk6) ?_
  rintro k7 k7' gk7
  refine Sm.b (Sm.is gw3 gk7) ?_
  intro _ _ _
  refine Sm.b (y_X3_spotOf gk7 gw3) ?_
  rintro v8 _ rfl
  refine Sm.b (Sm.is gw3 gk5) ?_
  intro _ _ _
  refine Sm.b (y_X3_spaceAt gk5 gw3) ?_
  rintro v10 _ rfl
  exact Sm.s (Rp.i (Ru.r rfl) gw3)
set_option maxHeartbeats 2000000 in
theorem y_X10_number {t t' : Nat} {a1 : Int32} {h h' : tq_H} (gt : (Rr r d) t t') (gh : (Em r d W0 H0 al) h h') : Sm (Rp (Ru Eq Eq) (Em r d W0 H0 al)) (f_X10_number t a1 h) (f_X10_number t' a1 h') := by
  unfold f_X10_number
  refine Sm.b (Sm.is gh gt) ?_
  intro _ _ _
  refine Sm.tb (y_X10_needNode gt gh) ?_
  rintro _ _ _ w3 w3' gw3
  refine Sm.b (Sm.gr gw3 gt) ?_
  rintro k4 k4' gk4
  refine Sm.b (Sm.gr gw3 gk4) ?_
  rintro k5 k5' gk5
  refine Sm.b (Sm.is gw3 gk5) ?_
  intro _ _ _
  refine Sm.b (y_X5_get gk5 gw3) ?_
  rintro v6 _ rfl
  exact Sm.s (Rp.i (Ru.r rfl) gw3)
set_option maxHeartbeats 2000000 in
theorem y_X10_numbered {t t' : Nat} {h h' : tq_H} (gt : (Rr r d) t t') (gh : (Em r d W0 H0 al) h h') : Sm Eq (f_X10_numbered t h) (f_X10_numbered t' h') := by
  unfold f_X10_numbered
  refine Sm.b (Sm.gi gh gt) ?_
  rintro x1 _ rfl
  exact Sm.s rfl
set_option maxHeartbeats 2000000 in
theorem y_X10_path {t t' : Nat} {h h' : tq_H} (gt : (Rr r d) t t') (gh : (Em r d W0 H0 al) h h') : Sm (Rp (Ru Eq Eq) (Em r d W0 H0 al)) (f_X10_path t h) (f_X10_path t' h') := by
  unfold f_X10_path
  refine Sm.b (Sm.gr gh gt) ?_
  rintro k1 k1' gk1
  refine Sm.b (Sm.is gh gk1) ?_
  intro _ _ _
  refine Sm.b (y_X4_count gk1 gh) ?_
  rintro v2 _ rfl
  refine Sm.i ?_ ?_
  · refine Sm.b (Sm.gr gh gt) ?_
    rintro k4 k4' gk4
    refine Sm.b (Sm.is gh gk4) ?_
    intro _ _ _
    refine Sm.b (y_X4_addPath gk4 gh) ?_
    rintro ⟨v5a, v5b⟩ ⟨_, v5b'⟩ ⟨rfl, gv5b⟩
    exact Sm.s (Rp.i (Ru.r rfl) gv5b)
  · exact Sm.s (Rp.i (Ru.l rfl) gh)
set_option maxHeartbeats 2000000 in
theorem y_X10_needPath {t t' : Nat} {a1 : Int32} {h h' : tq_H} (gt : (Rr r d) t t') (gh : (Em r d W0 H0 al) h h') : Sm (Rp (Ru Eq Eq) (Em r d W0 H0 al)) (f_X10_needPath t a1 h) (f_X10_needPath t' a1 h') := by
  unfold f_X10_needPath
  refine Sm.i ?_ ?_
  · exact Sm.s (Rp.i (Ru.l rfl) gh)
  · refine Sm.b (Sm.gr gh gt) ?_
    rintro k1 k1' gk1
    refine Sm.b (Sm.is gh gk1) ?_
    intro _ _ _
    refine Sm.b (y_X4_count gk1 gh) ?_
    rintro v2 _ rfl
    refine Sm.i ?_ ?_
    · exact Sm.s (Rp.i (Ru.r rfl) gh)
    · exact Sm.s (Rp.i (Ru.l rfl) gh)
set_option maxHeartbeats 2000000 in
theorem y_X10_needLower {t t' : Nat} {a1 : Int32} {a2 : Int32} {h h' : tq_H} (gt : (Rr r d) t t') (gh : (Em r d W0 H0 al) h h') : Sm (Rp (Ru Eq Eq) (Em r d W0 H0 al)) (f_X10_needLower t a1 a2 h) (f_X10_needLower t' a1 a2 h') := by
  unfold f_X10_needLower
  refine Sm.i ?_ ?_
  · exact Sm.s (Rp.i (Ru.l rfl) gh)
  · refine Sm.i ?_ ?_
    · exact Sm.s (Rp.i (Ru.r rfl) gh)
    · exact Sm.s (Rp.i (Ru.l rfl) gh)
set_option maxHeartbeats 2000000 in
theorem y_X10_needOpenPath_b26 {i0 i0' : Nat} {i1 : Int32} {hh hh' : tq_H} (gi0 : (Rr r d) i0 i0') (ghh : (Em r d W0 H0 al) hh hh') : ∀ s s', Eq s s' → Sm (Ru Eq (Ru Eq (Rp (Ru Eq Eq) (Em r d W0 H0 al)))) (f_X10_needOpenPath_b26 i0 i1 hh s) (f_X10_needOpenPath_b26 i0' i1 hh' s') := by
  rintro y2 _ rfl
  dsimp only [f_X10_needOpenPath_b26]
  refine Sm.b (Sm.gi ghh gi0) ?_
  rintro x4 _ rfl
  refine Sm.i ?_ ?_
  · exact Sm.s (Ru.r (Ru.l rfl))
  · refine Sm.b (Sm.gr ghh gi0) ?_
    rintro k5 k5' gk5
    refine Sm.b (Sm.is ghh gk5) ?_
    intro _ _ _
    refine Sm.b (y_X5_get gk5 ghh) ?_
    rintro v6 _ rfl
    refine Sm.i ?_ ?_
    · exact Sm.s (Ru.r (Ru.r (Rp.i (Ru.l rfl) ghh)))
    · refine Sm.l ?_
      exact Sm.s (Ru.l rfl)
set_option maxHeartbeats 2000000 in
theorem y_X10_needOpenPath {t t' : Nat} {a1 : Int32} {h h' : tq_H} (gt : (Rr r d) t t') (gh : (Em r d W0 H0 al) h h') : Sm (Rp (Ru Eq Eq) (Em r d W0 H0 al)) (f_X10_needOpenPath t a1 h) (f_X10_needOpenPath t' a1 h') := by
  unfold f_X10_needOpenPath
  refine Sm.b (Sm.gr gh gt) ?_
  rintro k1 k1' gk1
  refine Sm.b (Sm.is gh gk1) ?_
  intro _ _ _
  refine Sm.b (y_X4_count gk1 gh) ?_
  rintro v2 _ rfl
  refine Sm.i ?_ ?_
  · refine Sm.u (Sm.w (y_X10_needOpenPath_b26 gt gh) tq_N rfl) ?_ ?_
    · rintro o9 _ rfl
      exact Sm.s (Rp.i (Ru.r rfl) gh)
    · rintro ⟨e9a, e9b⟩ ⟨e9a', e9b'⟩ ⟨ge9a, ge9b⟩
      exact Sm.s (Rp.i ge9a ge9b)
  · exact Sm.s (Rp.i (Ru.l rfl) gh)
set_option maxHeartbeats 2000000 in
theorem y_X10_noteChangeOf {t t' : Nat} {a1 : Int32} {h h' : tq_H} (gt : (Rr r d) t t') (gh : (Em r d W0 H0 al) h h') : Sm (Em r d W0 H0 al) (f_X10_noteChangeOf t a1 h) (f_X10_noteChangeOf t' a1 h') := by
  unfold f_X10_noteChangeOf
  refine Sm.b (Sm.gr gh gt) ?_
  rintro k1 k1' gk1
  refine Sm.b (Sm.is gh gk1) ?_
  intro _ _ _
  refine Sm.b (y_X2_dropFrom gk1 gh) ?_
  rintro v2 v2' gv2
  refine Sm.b (Sm.gr gv2 gt) ?_
  rintro k4 k4' gk4
  refine Sm.b (Sm.is gv2 gk4) ?_
  intro _ _ _
  refine Sm.b (y_X2_dropFrom gk4 gv2) ?_
  rintro v5 v5' gv5
  refine Sm.b (Sm.gl gv5 gt) ?_
  rintro x7 _ rfl
  refine Sm.b (y_X0_holds gv5) ?_
  rintro v8 _ rfl
  refine Sm.b (R := (Em r d W0 H0 al)) ?_ ?_
  · refine Sm.i ?_ ?_
    · exact Sm.s gv5
    · refine Sm.b (Sm.pf gv5 gt (okV_i _)) ?_
      rintro w9 w9' gw9
      exact Sm.s gw9
  · rintro p10 p10' gp10
    exact Sm.s gp10
set_option maxHeartbeats 2000000 in
theorem y_X10_step {t t' : Nat} {a1 : Int32} {a2 : Int32} {a3 : Int32} {a4 : Int32} {h h' : tq_H} (gt : (Rr r d) t t') (gh : (Em r d W0 H0 al) h h') : Sm (Rp (Ru Eq Eq) (Em r d W0 H0 al)) (f_X10_step t a1 a2 a3 a4 h) (f_X10_step t' a1 a2 a3 a4 h') := by
  unfold f_X10_step
  refine Sm.b (Sm.is gh gt) ?_
  intro _ _ _
  refine Sm.tb (y_X10_needPath gt gh) ?_
  rintro _ _ _ w3 w3' gw3
  refine Sm.i ?_ ?_
  · refine Sm.b (Sm.is gw3 gt) ?_
    intro _ _ _
    refine Sm.tb (y_X10_needLower gt gw3) ?_
    rintro _ _ _ w37 w37' gw37
    refine Sm.b (Sm.is gw37 gt) ?_
    intro _ _ _
    refine Sm.tb (y_X10_needRange gt gw37) ?_
    rintro _ _ _ w40 w40' gw40
    refine Sm.b (Sm.is gw40 gt) ?_
    intro _ _ _
    refine Sm.tb (y_X10_needRange gt gw40) ?_
    rintro _ _ _ w43 w43' gw43
    refine Sm.i ?_ ?_
    · refine Sm.b (Sm.is gw43 gt) ?_
      intro _ _ _
      refine Sm.tb (y_X10_needOpenPath gt gw43) ?_
      rintro _ _ _ w46 w46' gw46
      refine Sm.b (Sm.gr gw46 gt) ?_
      rintro k47 k47' gk47
      refine Sm.b (Sm.is gw46 gk47) ?_
      intro _ _ _
      refine Sm.b (y_X4_stepsOf gk47 gw46) ?_
      rintro v48 _ rfl
      refine Sm.i ?_ ?_
      · refine Sm.b (Sm.is gw46 gt) ?_
        intro _ _ _
        refine Sm.b (y_X10_noteChangeOf gt gw46) ?_
        rintro v50 v50' gv50
        refine Sm.b (Sm.gr gv50 gt) ?_
        rintro k52 k52' gk52
        refine Sm.b (Sm.is gv50 gk52) ?_
        intro _ _ _
        refine Sm.b (y_X4_addStep gk52 gv50) ?_
        rintro ⟨v53a, v53b⟩ ⟨_, v53b'⟩ ⟨rfl, gv53b⟩
        exact Sm.s (Rp.i (Ru.r rfl) gv53b)
      · exact Sm.s (Rp.i (Ru.l rfl) gw46)
    · refine Sm.i ?_ ?_
      · refine Sm.b (Sm.is gw43 gt) ?_
        intro _ _ _
        refine Sm.tb (y_X10_needOpenPath gt gw43) ?_
        rintro _ _ _ w57 w57' gw57
        refine Sm.b (Sm.gr gw57 gt) ?_
        rintro k58 k58' gk58
        refine Sm.b (Sm.is gw57 gk58) ?_
        intro _ _ _
        refine Sm.b (y_X4_stepsOf gk58 gw57) ?_
        rintro v59 _ rfl
        refine Sm.i ?_ ?_
        · refine Sm.b (Sm.is gw57 gt) ?_
          intro _ _ _
          refine Sm.b (y_X10_noteChangeOf gt gw57) ?_
          rintro v61 v61' gv61
          refine Sm.b (Sm.gr gv61 gt) ?_
          rintro k63 k63' gk63
          refine Sm.b (Sm.is gv61 gk63) ?_
          intro _ _ _
          refine Sm.b (y_X4_addStep gk63 gv61) ?_
          rintro ⟨v64a, v64b⟩ ⟨_, v64b'⟩ ⟨rfl, gv64b⟩
          exact Sm.s (Rp.i (Ru.r rfl) gv64b)
        · exact Sm.s (Rp.i (Ru.l rfl) gw57)
      · exact Sm.s (Rp.i (Ru.l rfl) gw43)
  · refine Sm.b (Sm.is gw3 gt) ?_
    intro _ _ _
    refine Sm.tb (y_X10_needRange gt gw3) ?_
    rintro _ _ _ w9 w9' gw9
    refine Sm.b (Sm.is gw9 gt) ?_
    intro _ _ _
    refine Sm.tb (y_X10_needRange gt gw9) ?_
    rintro _ _ _ w12 w12' gw12
    refine Sm.i ?_ ?_
    · refine Sm.b (Sm.is gw12 gt) ?_
      intro _ _ _
      refine Sm.tb (y_X10_needOpenPath gt gw12) ?_
      rintro _ _ _ w15 w15' gw15
      refine Sm.b (Sm.gr gw15 gt) ?_
      rintro k16 k16' gk16
      refine Sm.b (Sm.is gw15 gk16) ?_
      intro _ _ _
      refine Sm.b (y_X4_stepsOf gk16 gw15) ?_
      rintro v17 _ rfl
      refine Sm.i ?_ ?_
      · refine Sm.b (Sm.is gw15 gt) ?_
        intro _ _ _
        refine Sm.b (y_X10_noteChangeOf gt gw15) ?_
        rintro v19 v19' gv19
        refine Sm.b (Sm.gr gv19 gt) ?_
        rintro k21 k21' gk21
        refine Sm.b (Sm.is gv19 gk21) ?_
        intro _ _ _
        refine Sm.b (y_X4_addStep gk21 gv19) ?_
        rintro ⟨v22a, v22b⟩ ⟨_, v22b'⟩ ⟨rfl, gv22b⟩
        exact Sm.s (Rp.i (Ru.r rfl) gv22b)
      · exact Sm.s (Rp.i (Ru.l rfl) gw15)
    · refine Sm.i ?_ ?_
      · refine Sm.b (Sm.is gw12 gt) ?_
        intro _ _ _
        refine Sm.tb (y_X10_needOpenPath gt gw12) ?_
        rintro _ _ _ w26 w26' gw26
        refine Sm.b (Sm.gr gw26 gt) ?_
        rintro k27 k27' gk27
        refine Sm.b (Sm.is gw26 gk27) ?_
        intro _ _ _
        refine Sm.b (y_X4_stepsOf gk27 gw26) ?_
        rintro v28 _ rfl
        refine Sm.i ?_ ?_
        · refine Sm.b (Sm.is gw26 gt) ?_
          intro _ _ _
          refine Sm.b (y_X10_noteChangeOf gt gw26) ?_
          rintro v30 v30' gv30
          refine Sm.b (Sm.gr gv30 gt) ?_
          rintro k32 k32' gk32
          refine Sm.b (Sm.is gv30 gk32) ?_
          intro _ _ _
          refine Sm.b (y_X4_addStep gk32 gv30) ?_
          rintro ⟨v33a, v33b⟩ ⟨_, v33b'⟩ ⟨rfl, gv33b⟩
          exact Sm.s (Rp.i (Ru.r rfl) gv33b)
        · exact Sm.s (Rp.i (Ru.l rfl) gw26)
      · exact Sm.s (Rp.i (Ru.l rfl) gw12)
set_option maxHeartbeats 2000000 in
theorem y_X10_needOpenStep {t t' : Nat} {a1 : Int32} {h h' : tq_H} (gt : (Rr r d) t t') (gh : (Em r d W0 H0 al) h h') : Sm (Rp (Ru Eq Eq) (Em r d W0 H0 al)) (f_X10_needOpenStep t a1 h) (f_X10_needOpenStep t' a1 h') := by
  unfold f_X10_needOpenStep
  refine Sm.b (Sm.is gh gt) ?_
  intro _ _ _
  refine Sm.tb (y_X10_needOpenPath gt gh) ?_
  rintro _ _ _ w3 w3' gw3
  refine Sm.b (Sm.gr gw3 gt) ?_
  rintro k4 k4' gk4
  refine Sm.b (Sm.is gw3 gk4) ?_
  intro _ _ _
  refine Sm.b (y_X4_stepsOf gk4 gw3) ?_
  rintro v5 _ rfl
  refine Sm.i ?_ ?_
  · refine Sm.b (Sm.gr gw3 gt) ?_
    rintro k7 k7' gk7
    refine Sm.b (Sm.is gw3 gk7) ?_
    intro _ _ _
    refine Sm.b (y_X4_conditionsOfLast gk7 gw3) ?_
    rintro v8 _ rfl
    refine Sm.i ?_ ?_
    · exact Sm.s (Rp.i (Ru.r rfl) gw3)
    · exact Sm.s (Rp.i (Ru.l rfl) gw3)
  · exact Sm.s (Rp.i (Ru.l rfl) gw3)
set_option maxHeartbeats 2000000 in
theorem y_X10_place {t t' : Nat} {a1 : Int32} {a2 : Int32} {a3 : Int32} {h h' : tq_H} (gt : (Rr r d) t t') (gh : (Em r d W0 H0 al) h h') : Sm (Rp (Ru Eq Eq) (Em r d W0 H0 al)) (f_X10_place t a1 a2 a3 h) (f_X10_place t' a1 a2 a3 h') := by
  unfold f_X10_place
  refine Sm.b (Sm.is gh gt) ?_
  intro _ _ _
  refine Sm.tb (y_X10_needPath gt gh) ?_
  rintro _ _ _ w3 w3' gw3
  refine Sm.b (Sm.is gw3 gt) ?_
  intro _ _ _
  refine Sm.tb (y_X10_needRange gt gw3) ?_
  rintro _ _ _ w6 w6' gw6
  refine Sm.b (Sm.is gw6 gt) ?_
  intro _ _ _
  refine Sm.tb (y_X10_needRange gt gw6) ?_
  rintro _ _ _ w9 w9' gw9
  refine Sm.b (Sm.is gw9 gt) ?_
  intro _ _ _
  refine Sm.tb (y_X10_needOpenStep gt gw9) ?_
  rintro _ _ _ w12 w12' gw12
  refine Sm.b (Sm.is gw12 gt) ?_
  intro _ _ _
  refine Sm.b (y_X10_noteChangeOf gt gw12) ?_
  rintro v13 v13' gv13
  refine Sm.b (Sm.gr gv13 gt) ?_
  rintro k15 k15' gk15
  refine Sm.b (Sm.is gv13 gk15) ?_
  intro _ _ _
  refine Sm.b (y_X4_addCondition gk15 gv13) ?_
  rintro ⟨v16a, v16b⟩ ⟨_, v16b'⟩ ⟨rfl, gv16b⟩
  exact Sm.s (Rp.i (Ru.r rfl) gv16b)
set_option maxHeartbeats 2000000 in
theorem y_X10_last {t t' : Nat} {a1 : Int32} {h h' : tq_H} (gt : (Rr r d) t t') (gh : (Em r d W0 H0 al) h h') : Sm (Rp (Ru Eq Eq) (Em r d W0 H0 al)) (f_X10_last t a1 h) (f_X10_last t' a1 h') := by
  unfold f_X10_last
  refine Sm.b (Sm.is gh gt) ?_
  intro _ _ _
  refine Sm.tb (y_X10_needPath gt gh) ?_
  rintro _ _ _ w3 w3' gw3
  refine Sm.b (Sm.is gw3 gt) ?_
  intro _ _ _
  refine Sm.tb (y_X10_needOpenStep gt gw3) ?_
  rintro _ _ _ w6 w6' gw6
  refine Sm.b (Sm.is gw6 gt) ?_
  intro _ _ _
  refine Sm.b (y_X10_noteChangeOf gt gw6) ?_
  rintro v7 v7' gv7
  refine Sm.b (Sm.gr gv7 gt) ?_
  rintro k9 k9' gk9
  refine Sm.b (Sm.is gv7 gk9) ?_
  intro _ _ _
  refine Sm.b (y_X4_addCondition gk9 gv7) ?_
  rintro ⟨v10a, v10b⟩ ⟨_, v10b'⟩ ⟨rfl, gv10b⟩
  exact Sm.s (Rp.i (Ru.r rfl) gv10b)
set_option maxHeartbeats 2000000 in
theorem y_X10_has {t t' : Nat} {a1 : Int32} {a2 : Int32} {a3 : Int32} {h h' : tq_H} (gt : (Rr r d) t t') (gh : (Em r d W0 H0 al) h h') : Sm (Rp (Ru Eq Eq) (Em r d W0 H0 al)) (f_X10_has t a1 a2 a3 h) (f_X10_has t' a1 a2 a3 h') := by
  unfold f_X10_has
  refine Sm.b (Sm.is gh gt) ?_
  intro _ _ _
  refine Sm.tb (y_X10_needPath gt gh) ?_
  rintro _ _ _ w3 w3' gw3
  refine Sm.b (Sm.is gw3 gt) ?_
  intro _ _ _
  refine Sm.tb (y_X10_needLower gt gw3) ?_
  rintro _ _ _ w6 w6' gw6
  refine Sm.b (Sm.is gw6 gt) ?_
  intro _ _ _
  refine Sm.tb (y_X10_needOpenStep gt gw6) ?_
  rintro _ _ _ w9 w9' gw9
  refine Sm.b (Sm.is gw9 gt) ?_
  intro _ _ _
  refine Sm.b (y_X10_noteChangeOf gt gw9) ?_
  rintro v10 v10' gv10
  refine Sm.b (Sm.gr gv10 gt) ?_
  rintro k12 k12' gk12
  refine Sm.l ?_
  refine Sm.b (Sm.is gv10 gk12) ?_
  intro _ _ _
  refine Sm.b (y_X4_addCondition gk12 gv10) ?_
  rintro ⟨v14a, v14b⟩ ⟨_, v14b'⟩ ⟨rfl, gv14b⟩
  exact Sm.s (Rp.i (Ru.r rfl) gv14b)
set_option maxHeartbeats 2000000 in
theorem y_X10_worth {t t' : Nat} {a1 : Int32} {a2 : Int32} {a3 : Int32} {a4 : Int32} {h h' : tq_H} (gt : (Rr r d) t t') (gh : (Em r d W0 H0 al) h h') : Sm (Rp (Ru Eq Eq) (Em r d W0 H0 al)) (f_X10_worth t a1 a2 a3 a4 h) (f_X10_worth t' a1 a2 a3 a4 h') := by
  unfold f_X10_worth
  refine Sm.b (Sm.is gh gt) ?_
  intro _ _ _
  refine Sm.tb (y_X10_needPath gt gh) ?_
  rintro _ _ _ w3 w3' gw3
  refine Sm.b (Sm.is gw3 gt) ?_
  intro _ _ _
  refine Sm.tb (y_X10_needLower gt gw3) ?_
  rintro _ _ _ w6 w6' gw6
  refine Sm.b (Sm.is gw6 gt) ?_
  intro _ _ _
  refine Sm.tb (y_X10_needRange gt gw6) ?_
  rintro _ _ _ w9 w9' gw9
  refine Sm.b (Sm.is gw9 gt) ?_
  intro _ _ _
  refine Sm.tb (y_X10_needRange gt gw9) ?_
  rintro _ _ _ w12 w12' gw12
  refine Sm.b (Sm.is gw12 gt) ?_
  intro _ _ _
  refine Sm.tb (y_X10_needOpenStep gt gw12) ?_
  rintro _ _ _ w15 w15' gw15
  refine Sm.b (Sm.is gw15 gt) ?_
  intro _ _ _
  refine Sm.b (y_X10_noteChangeOf gt gw15) ?_
  rintro v16 v16' gv16
  refine Sm.b (Sm.gr gv16 gt) ?_
  rintro k18 k18' gk18
  refine Sm.b (Sm.is gv16 gk18) ?_
  intro _ _ _
  refine Sm.b (y_X4_addCondition gk18 gv16) ?_
  rintro ⟨v19a, v19b⟩ ⟨_, v19b'⟩ ⟨rfl, gv19b⟩
  exact Sm.s (Rp.i (Ru.r rfl) gv19b)
set_option maxHeartbeats 2000000 in
theorem y_X10_paths {t t' : Nat} {h h' : tq_H} (gt : (Rr r d) t t') (gh : (Em r d W0 H0 al) h h') : Sm Eq (f_X10_paths t h) (f_X10_paths t' h') := by
  unfold f_X10_paths
  refine Sm.b (Sm.gr gh gt) ?_
  rintro k1 k1' gk1
  refine Sm.b (Sm.is gh gk1) ?_
  intro _ _ _
  refine Sm.b (y_X4_count gk1 gh) ?_
  rintro v2 _ rfl
  exact Sm.s rfl
set_option maxHeartbeats 2000000 in
theorem y_X10_readAsReader {t t' : Nat} {a1 : Int32} {h h' : tq_H} (gt : (Rr r d) t t') (gh : (Em r d W0 H0 al) h h') : Sm (Rp Eq (Em r d W0 H0 al)) (f_X10_readAsReader t a1 h) (f_X10_readAsReader t' a1 h') := by
  unfold f_X10_readAsReader
  refine Sm.b (Sm.gi gh gt) ?_
  rintro x1 _ rfl
  refine Sm.b (Sm.r) ?_
  rintro z3 _ rfl
  refine Sm.b (Sm.pf gh gt (okV_i _)) ?_
  rintro w2 w2' gw2
  refine Sm.b (Sm.r) ?_
  rintro z4 _ rfl
  exact Sm.s (Rp.i rfl gw2)
set_option maxHeartbeats 2000000 in
theorem y_X10_refreshedReader_b16 {i0 i0' : Nat} (gi0 : (Rr r d) i0 i0') : ∀ s s', (Rp Eq (Rp Eq (Em r d W0 H0 al))) s s' → Sm (Ru (Rp Eq (Rp Eq (Em r d W0 H0 al))) (Rp Eq (Em r d W0 H0 al))) (f_X10_refreshedReader_b16 i0 s) (f_X10_refreshedReader_b16 i0' s') := by
  rintro ⟨y1, ⟨y3, hh⟩⟩ ⟨_, ⟨_, hh'⟩⟩ ⟨rfl, ⟨rfl, ghh⟩⟩
  dsimp only [f_X10_refreshedReader_b16]
  refine Sm.b (Sm.gr ghh gi0) ?_
  rintro k2 k2' gk2
  refine Sm.b (Sm.is ghh gk2) ?_
  intro _ _ _
  refine Sm.b (y_X4_count gk2 ghh) ?_
  rintro v3 _ rfl
  refine Sm.i ?_ ?_
  · exact Sm.s (Ru.r (Rp.i rfl ghh))
  · refine Sm.b (Sm.gl ghh gi0) ?_
    rintro x5 _ rfl
    refine Sm.b (y_X0_holds ghh) ?_
    rintro v6 _ rfl
    refine Sm.b (R := (Rp Eq (Em r d W0 H0 al))) ?_ ?_
    · refine Sm.i ?_ ?_
      · exact Sm.s (Rp.i rfl ghh)
      · refine Sm.b (Sm.gr ghh gi0) ?_
        rintro k7 k7' gk7
        refine Sm.b (Sm.is ghh gk7) ?_
        intro _ _ _
        refine Sm.b (y_X2_prepare gk7 ghh) ?_
        rintro v8 v8' gv8
        refine Sm.b (Sm.gr gv8 gi0) ?_
        rintro k10 k10' gk10
        refine Sm.b (Sm.is gv8 gk10) ?_
        intro _ _ _
        refine Sm.b (y_X2_foundFrom gk10 gv8) ?_
        rintro v11 _ rfl
        refine Sm.l ?_
        exact Sm.s (Rp.i rfl gv8)
    · rintro ⟨p14a, p14b⟩ ⟨_, p14b'⟩ ⟨rfl, gp14b⟩
      refine Sm.l ?_
      exact Sm.s (Ru.l (Rp.i rfl (Rp.i rfl gp14b)))
set_option maxHeartbeats 2000000 in
theorem y_X10_refreshedReader {t t' : Nat} {h h' : tq_H} (gt : (Rr r d) t t') (gh : (Em r d W0 H0 al) h h') : Sm (Rp (Rr r d) (Em r d W0 H0 al)) (f_X10_refreshedReader t h) (f_X10_refreshedReader t' h') := by
  unfold f_X10_refreshedReader
  refine Sm.b (Sm.gi gh gt) ?_
  rintro x1 _ rfl
  refine Sm.i ?_ ?_
  · refine Sm.b (Sm.gr gh gt) ?_
    rintro k31 k31' gk31
    exact Sm.s (Rp.i gk31 gh)
  · refine Sm.b (Sm.w (y_X10_refreshedReader_b16 gt) tq_N (Rp.i rfl (Rp.i rfl gh))) ?_
    rintro ⟨o16a, o16b⟩ ⟨_, o16b'⟩ ⟨rfl, go16b⟩
    refine Sm.b (Sm.gr go16b gt) ?_
    rintro k17 k17' gk17
    refine Sm.b (Sm.gr go16b gk17) ?_
    rintro k18 k18' gk18
    refine Sm.b (y_X0_one go16b) ?_
    rintro v19 _ rfl
    refine Sm.b (Sm.is go16b gk18) ?_
    intro _ _ _
    refine Sm.b (y_X3_spread gk18 go16b) ?_
    rintro v20 _ rfl
    refine Sm.b (Sm.gr go16b gt) ?_
    rintro k22 k22' gk22
    refine Sm.b (Sm.gr go16b gt) ?_
    rintro k23 k23' gk23
    refine Sm.b (Sm.gr go16b gk23) ?_
    rintro k24 k24' gk24
    refine Sm.b (Sm.is go16b gk24) ?_
    intro _ _ _
    refine Sm.b (y_X3_everything gk24 go16b) ?_
    rintro v25 _ rfl
    refine Sm.b (Sm.is go16b gk22) ?_
    intro _ _ _
    refine Sm.b (y_X2_start gk22 go16b) ?_
    rintro v27 v27' gv27
    refine Sm.b (Sm.pf gv27 gt (okV_i _)) ?_
    rintro w29 w29' gw29
    refine Sm.b (Sm.gr gw29 gt) ?_
    rintro k30 k30' gk30
    exact Sm.s (Rp.i gk30 gw29)
set_option maxHeartbeats 2000000 in
theorem y_X10_needStart {t t' : Nat} {a1 a1' : Nat} {a2 : Int32} {h h' : tq_H} (gt : (Rr r d) t t') (ga1 : (Rr r d) a1 a1') (gh : (Em r d W0 H0 al) h h') : Sm (Rp (Ru Eq Eq) (Em r d W0 H0 al)) (f_X10_needStart t a1 a2 h) (f_X10_needStart t' a1' a2 h') := by
  unfold f_X10_needStart
  refine Sm.b (Sm.is gh gt) ?_
  intro _ _ _
  refine Sm.tb (y_X10_needNode gt gh) ?_
  rintro _ _ _ w3 w3' gw3
  refine Sm.b (Sm.gr gw3 gt) ?_
  rintro k4 k4' gk4
  refine Sm.b (Sm.gr gw3 gk4) ?_
  rintro k5 k5' gk5
  refine Sm.b (Sm.is gw3 gk5) ?_
  intro _ _ _
  refine Sm.b (y_X3_spotOf gk5 gw3) ?_
  rintro v6 _ rfl
  refine Sm.b (Sm.is gw3 ga1) ?_
  intro _ _ _
  refine Sm.b (y_X2_sees ga1 gw3) ?_
  rintro v8 _ rfl
  refine Sm.i ?_ ?_
  · exact Sm.s (Rp.i (Ru.l rfl) gw3)
  · exact Sm.s (Rp.i (Ru.r rfl) gw3)
set_option maxHeartbeats 2000000 in
theorem y_X10_found {t t' : Nat} {a1 : Int32} {a2 : Int32} {h h' : tq_H} (gt : (Rr r d) t t') (gh : (Em r d W0 H0 al) h h') : Sm (Rp (Ru Eq Eq) (Em r d W0 H0 al)) (f_X10_found t a1 a2 h) (f_X10_found t' a1 a2 h') := by
  unfold f_X10_found
  refine Sm.b (Sm.gi gh gt) ?_
  rintro x1 _ rfl
  refine Sm.b (R := (Rp (Rr r d) (Em r d W0 H0 al))) ?_ ?_
  · refine Sm.i ?_ ?_
    · refine Sm.b (Sm.gr gh gt) ?_
      rintro k2 k2' gk2
      exact Sm.s (Rp.i gk2 gh)
    · refine Sm.b (Sm.is gh gt) ?_
      intro _ _ _
      refine Sm.b (y_X10_refreshedReader gt gh) ?_
      rintro ⟨v3a, v3b⟩ ⟨v3a', v3b'⟩ ⟨gv3a, gv3b⟩
      exact Sm.s (Rp.i gv3a gv3b)
  · rintro ⟨p5a, p5b⟩ ⟨p5a', p5b'⟩ ⟨gp5a, gp5b⟩
    refine Sm.b (Sm.is gp5b gt) ?_
    intro _ _ _
    refine Sm.tb (y_X10_needPath gt gp5b) ?_
    rintro _ _ _ w8 w8' gw8
    refine Sm.b (Sm.is gw8 gt) ?_
    intro _ _ _
    refine Sm.tb (y_X10_needStart gt gp5a gw8) ?_
    rintro _ _ _ w11 w11' gw11
    refine Sm.b (Sm.is gw11 gp5a) ?_
    intro _ _ _
    refine Sm.b (y_X2_prepare gp5a gw11) ?_
    rintro v12 v12' gv12
    refine Sm.b (Sm.gr gv12 gt) ?_
    rintro k14 k14' gk14
    refine Sm.b (Sm.gr gv12 gk14) ?_
    rintro k15 k15' gk15
    refine Sm.b (Sm.is gv12 gk15) ?_
    intro _ _ _
    refine Sm.b (y_X3_spotOf gk15 gv12) ?_
    rintro v16 _ rfl
    refine Sm.b (Sm.is gv12 gp5a) ?_
    intro _ _ _
    refine Sm.b (y_X2_foundFrom gp5a gv12) ?_
    rintro v18 _ rfl
    refine Sm.b (y_J13_bitCount_95d88 gv12) ?_
    rintro v20 _ rfl
    exact Sm.s (Rp.i (Ru.r rfl) gv12)
set_option maxHeartbeats 2000000 in
theorem y_X10_foundAnew_b59 {i0 i0' : Nat} {i4 : Int64} {hh hh' : tq_H} (gi0 : (Rr r d) i0 i0') (ghh : (Em r d W0 H0 al) hh hh') : ∀ s s', (Rp Eq Eq) s s' → Sm (Ru (Rp Eq Eq) Eq) (f_X10_foundAnew_b59 i0 i4 hh s) (f_X10_foundAnew_b59 i0' i4 hh' s') := by
  rintro ⟨y6, y7⟩ ⟨_, _⟩ ⟨rfl, rfl⟩
  dsimp only [f_X10_foundAnew_b59]
  refine Sm.b (Sm.gr ghh gi0) ?_
  rintro k20 k20' gk20
  refine Sm.b (Sm.gr ghh gk20) ?_
  rintro k21 k21' gk21
  refine Sm.b (Sm.is ghh gk21) ?_
  intro _ _ _
  refine Sm.b (y_X3_count gk21 ghh) ?_
  rintro v22 _ rfl
  refine Sm.i ?_ ?_
  · exact Sm.s (Ru.r rfl)
  · refine Sm.b (y_X0_holds ghh) ?_
    rintro v24 _ rfl
    refine Sm.b (R := Eq) ?_ ?_
    · refine Sm.i ?_ ?_
      · exact Sm.s rfl
      · refine Sm.l ?_
        exact Sm.s rfl
    · rintro p26 _ rfl
      refine Sm.l ?_
      exact Sm.s (Ru.l (Rp.i rfl rfl))
set_option maxHeartbeats 2000000 in
theorem y_X10_foundAnew {t t' : Nat} {a1 : Int32} {a2 : Int32} {h h' : tq_H} (gt : (Rr r d) t t') (gh : (Em r d W0 H0 al) h h') : Sm (Rp (Ru Eq Eq) (Em r d W0 H0 al)) (f_X10_foundAnew t a1 a2 h) (f_X10_foundAnew t' a1 a2 h') := by
  unfold f_X10_foundAnew
  refine Sm.b (Sm.gi gh gt) ?_
  rintro x1 _ rfl
  refine Sm.b (R := (Rp (Rr r d) (Em r d W0 H0 al))) ?_ ?_
  · refine Sm.i ?_ ?_
    · refine Sm.b (Sm.gr gh gt) ?_
      rintro k2 k2' gk2
      exact Sm.s (Rp.i gk2 gh)
    · refine Sm.b (Sm.is gh gt) ?_
      intro _ _ _
      refine Sm.b (y_X10_refreshedReader gt gh) ?_
      rintro ⟨v3a, v3b⟩ ⟨v3a', v3b'⟩ ⟨gv3a, gv3b⟩
      exact Sm.s (Rp.i gv3a gv3b)
  · rintro ⟨p5a, p5b⟩ ⟨p5a', p5b'⟩ ⟨gp5a, gp5b⟩
    refine Sm.b (Sm.is gp5b gt) ?_
    intro _ _ _
    refine Sm.tb (y_X10_needPath gt gp5b) ?_
    rintro _ _ _ w8 w8' gw8
    refine Sm.b (Sm.is gw8 gt) ?_
    intro _ _ _
    refine Sm.tb (y_X10_needStart gt gp5a gw8) ?_
    rintro _ _ _ w11 w11' gw11
    refine Sm.b (Sm.is gw11 gp5a) ?_
    intro _ _ _
    refine Sm.b (y_X2_prepare gp5a gw11) ?_
    rintro v12 v12' gv12
    refine Sm.b (Sm.gr gv12 gt) ?_
    rintro k14 k14' gk14
    refine Sm.b (Sm.gr gv12 gk14) ?_
    rintro k15 k15' gk15
    refine Sm.b (Sm.is gv12 gk15) ?_
    intro _ _ _
    refine Sm.b (y_X3_spotOf gk15 gv12) ?_
    rintro v16 _ rfl
    refine Sm.b (Sm.is gv12 gp5a) ?_
    intro _ _ _
    refine Sm.b (y_X2_foundFrom gp5a gv12) ?_
    rintro v18 _ rfl
    refine Sm.b (Sm.w (y_X10_foundAnew_b59 gt gv12) tq_N (Rp.i rfl rfl)) ?_
    rintro o28 _ rfl
    exact Sm.s (Rp.i (Ru.r rfl) gv12)
set_option maxHeartbeats 2000000 in
theorem y_X10_needPlaceOf {t t' : Nat} {a1 : Int64} {a3 : Int32} {h h' : tq_H} (gt : (Rr r d) t t') (gh : (Em r d W0 H0 al) h h') : Sm (Rp (Ru Eq Eq) (Em r d W0 H0 al)) (f_X10_needPlaceOf t a1 a3 h) (f_X10_needPlaceOf t' a1 a3 h') := by
  unfold f_X10_needPlaceOf
  refine Sm.i ?_ ?_
  · exact Sm.s (Rp.i (Ru.l rfl) gh)
  · refine Sm.b (y_J13_bitCount_95d88 gh) ?_
    rintro v1 _ rfl
    refine Sm.i ?_ ?_
    · exact Sm.s (Rp.i (Ru.r rfl) gh)
    · exact Sm.s (Rp.i (Ru.l rfl) gh)
set_option maxHeartbeats 2000000 in
theorem y_X10_foundAt {t t' : Nat} {a1 : Int32} {a2 : Int32} {h h' : tq_H} (gt : (Rr r d) t t') (gh : (Em r d W0 H0 al) h h') : Sm (Rp (Ru Eq Eq) (Em r d W0 H0 al)) (f_X10_foundAt t a1 a2 h) (f_X10_foundAt t' a1 a2 h') := by
  unfold f_X10_foundAt
  refine Sm.b (Sm.gi gh gt) ?_
  rintro x1 _ rfl
  refine Sm.b (R := (Rp (Rr r d) (Em r d W0 H0 al))) ?_ ?_
  · refine Sm.i ?_ ?_
    · refine Sm.b (Sm.gr gh gt) ?_
      rintro k2 k2' gk2
      exact Sm.s (Rp.i gk2 gh)
    · refine Sm.b (Sm.is gh gt) ?_
      intro _ _ _
      refine Sm.b (y_X10_refreshedReader gt gh) ?_
      rintro ⟨v3a, v3b⟩ ⟨v3a', v3b'⟩ ⟨gv3a, gv3b⟩
      exact Sm.s (Rp.i gv3a gv3b)
  · rintro ⟨p5a, p5b⟩ ⟨p5a', p5b'⟩ ⟨gp5a, gp5b⟩
    refine Sm.b (Sm.is gp5b gt) ?_
    intro _ _ _
    refine Sm.tb (y_X10_needPath gt gp5b) ?_
    rintro _ _ _ w8 w8' gw8
    refine Sm.b (Sm.is gw8 gp5a) ?_
    intro _ _ _
    refine Sm.b (y_X2_prepare gp5a gw8) ?_
    rintro v9 v9' gv9
    refine Sm.b (Sm.is gv9 gp5a) ?_
    intro _ _ _
    refine Sm.b (y_X2_foundFrom gp5a gv9) ?_
    rintro v11 _ rfl
    refine Sm.b (Sm.is gv9 gt) ?_
    intro _ _ _
    refine Sm.tb (y_X10_needPlaceOf gt gv9) ?_
    rintro _ _ _ w15 w15' gw15
    refine Sm.b (Sm.gr gw15 gt) ?_
    rintro k16 k16' gk16
    refine Sm.b (Sm.gr gw15 gk16) ?_
    rintro k17 k17' gk17
    refine Sm.b (Sm.is gw15 gk17) ?_
    intro _ _ _
    refine Sm.b (y_X3_nodeOfSet gk17 gw15) ?_
    rintro v18 _ rfl
    exact Sm.s (Rp.i (Ru.r rfl) gw15)
set_option maxHeartbeats 2000000 in
theorem y_X10_ordered {t t' : Nat} {a1 : Int32} {a2 : Int32} {h h' : tq_H} (gt : (Rr r d) t t') (gh : (Em r d W0 H0 al) h h') : Sm (Rp (Ru Eq Eq) (Em r d W0 H0 al)) (f_X10_ordered t a1 a2 h) (f_X10_ordered t' a1 a2 h') := by
  unfold f_X10_ordered
  refine Sm.b (Sm.gi gh gt) ?_
  rintro x1 _ rfl
  refine Sm.b (R := (Rp (Rr r d) (Em r d W0 H0 al))) ?_ ?_
  · refine Sm.i ?_ ?_
    · refine Sm.b (Sm.gr gh gt) ?_
      rintro k2 k2' gk2
      exact Sm.s (Rp.i gk2 gh)
    · refine Sm.b (Sm.is gh gt) ?_
      intro _ _ _
      refine Sm.b (y_X10_refreshedReader gt gh) ?_
      rintro ⟨v3a, v3b⟩ ⟨v3a', v3b'⟩ ⟨gv3a, gv3b⟩
      exact Sm.s (Rp.i gv3a gv3b)
  · rintro ⟨p5a, p5b⟩ ⟨p5a', p5b'⟩ ⟨gp5a, gp5b⟩
    refine Sm.b (Sm.is gp5b gt) ?_
    intro _ _ _
    refine Sm.tb (y_X10_needPath gt gp5b) ?_
    rintro _ _ _ w8 w8' gw8
    refine Sm.b (Sm.is gw8 gp5a) ?_
    intro _ _ _
    refine Sm.b (y_X2_prepare gp5a gw8) ?_
    rintro v9 v9' gv9
    refine Sm.b (Sm.is gv9 gp5a) ?_
    intro _ _ _
    refine Sm.b (y_X2_foundFrom gp5a gv9) ?_
    rintro v11 _ rfl
    refine Sm.b (Sm.is gv9 gt) ?_
    intro _ _ _
    refine Sm.tb (y_X10_needPlaceOf gt gv9) ?_
    rintro _ _ _ w15 w15' gw15
    refine Sm.b (Sm.gr gw15 gt) ?_
    rintro k16 k16' gk16
    refine Sm.b (Sm.gr gw15 gk16) ?_
    rintro k17 k17' gk17
    refine Sm.b (Sm.is gw15 gp5a) ?_
    intro _ _ _
    refine Sm.b (y_X2_orderedSpot gp5a gw15) ?_
    rintro v18 _ rfl
    refine Sm.b (Sm.is gw15 gk17) ?_
    intro _ _ _
    refine Sm.b (y_X3_nodeAt gk17 gw15) ?_
    rintro v20 _ rfl
    exact Sm.s (Rp.i (Ru.r rfl) gw15)
set_option maxHeartbeats 2000000 in
theorem y_X10_groups {t t' : Nat} {a1 : Int32} {h h' : tq_H} (gt : (Rr r d) t t') (gh : (Em r d W0 H0 al) h h') : Sm (Rp (Ru Eq Eq) (Em r d W0 H0 al)) (f_X10_groups t a1 h) (f_X10_groups t' a1 h') := by
  unfold f_X10_groups
  refine Sm.b (Sm.gi gh gt) ?_
  rintro x1 _ rfl
  refine Sm.b (R := (Rp (Rr r d) (Em r d W0 H0 al))) ?_ ?_
  · refine Sm.i ?_ ?_
    · refine Sm.b (Sm.gr gh gt) ?_
      rintro k2 k2' gk2
      exact Sm.s (Rp.i gk2 gh)
    · refine Sm.b (Sm.is gh gt) ?_
      intro _ _ _
      refine Sm.b (y_X10_refreshedReader gt gh) ?_
      rintro ⟨v3a, v3b⟩ ⟨v3a', v3b'⟩ ⟨gv3a, gv3b⟩
      exact Sm.s (Rp.i gv3a gv3b)
  · rintro ⟨p5a, p5b⟩ ⟨p5a', p5b'⟩ ⟨gp5a, gp5b⟩
    refine Sm.b (Sm.is gp5b gt) ?_
    intro _ _ _
    refine Sm.tb (y_X10_needPath gt gp5b) ?_
    rintro _ _ _ w8 w8' gw8
    refine Sm.b (Sm.is gw8 gp5a) ?_
    intro _ _ _
    refine Sm.b (y_X2_prepare gp5a gw8) ?_
    rintro v9 v9' gv9
    refine Sm.b (Sm.is gv9 gp5a) ?_
    intro _ _ _
    refine Sm.b (y_X2_countValues gp5a gv9) ?_
    rintro v11 _ rfl
    exact Sm.s (Rp.i (Ru.r rfl) gv9)
set_option maxHeartbeats 2000000 in
theorem y_X10_needIndex {t t' : Nat} {a1 : Int32} {a2 : Int32} {h h' : tq_H} (gt : (Rr r d) t t') (gh : (Em r d W0 H0 al) h h') : Sm (Rp (Ru Eq Eq) (Em r d W0 H0 al)) (f_X10_needIndex t a1 a2 h) (f_X10_needIndex t' a1 a2 h') := by
  unfold f_X10_needIndex
  refine Sm.i ?_ ?_
  · exact Sm.s (Rp.i (Ru.l rfl) gh)
  · refine Sm.i ?_ ?_
    · exact Sm.s (Rp.i (Ru.r rfl) gh)
    · exact Sm.s (Rp.i (Ru.l rfl) gh)
set_option maxHeartbeats 2000000 in
theorem y_X10_needLooseSchema {t t' : Nat} {h h' : tq_H} (gt : (Rr r d) t t') (gh : (Em r d W0 H0 al) h h') : Sm (Rp (Ru Eq Eq) (Em r d W0 H0 al)) (f_X10_needLooseSchema t h) (f_X10_needLooseSchema t' h') := by
  unfold f_X10_needLooseSchema
  refine Sm.b (Sm.gr gh gt) ?_
  rintro k1 k1' gk1
  refine Sm.b (Sm.is gh gk1) ?_
  intro _ _ _
  refine Sm.b (y_X6_isStrict gk1 gh) ?_
  rintro v2 _ rfl
  refine Sm.i ?_ ?_
  · exact Sm.s (Rp.i (Ru.r rfl) gh)
  · exact Sm.s (Rp.i (Ru.l rfl) gh)
set_option maxHeartbeats 2000000 in
theorem y_X10_nameType {t t' : Nat} {a1 : Int32} {a2 : Int32} {h h' : tq_H} (gt : (Rr r d) t t') (gh : (Em r d W0 H0 al) h h') : Sm (Rp (Ru Eq Eq) (Em r d W0 H0 al)) (f_X10_nameType t a1 a2 h) (f_X10_nameType t' a1 a2 h') := by
  unfold f_X10_nameType
  refine Sm.b (Sm.is gh gt) ?_
  intro _ _ _
  refine Sm.tb (y_X10_needIndex gt gh) ?_
  rintro _ _ _ w3 w3' gw3
  refine Sm.b (Sm.is gw3 gt) ?_
  intro _ _ _
  refine Sm.tb (y_X10_needRange gt gw3) ?_
  rintro _ _ _ w6 w6' gw6
  refine Sm.b (Sm.is gw6 gt) ?_
  intro _ _ _
  refine Sm.tb (y_X10_needLooseSchema gt gw6) ?_
  rintro _ _ _ w9 w9' gw9
  refine Sm.b (Sm.gr gw9 gt) ?_
  rintro k10 k10' gk10
  refine Sm.b (Sm.is gw9 gk10) ?_
  intro _ _ _
  refine Sm.b (y_X6_giveName gk10 gw9) ?_
  rintro ⟨v11a, v11b⟩ ⟨_, v11b'⟩ ⟨rfl, gv11b⟩
  exact Sm.s (Rp.i (Ru.r rfl) gv11b)
set_option maxHeartbeats 2000000 in
theorem y_X10_arc {t t' : Nat} {a1 : Int32} {a2 : Int32} {a3 : Int32} {a4 : Int32} {h h' : tq_H} (gt : (Rr r d) t t') (gh : (Em r d W0 H0 al) h h') : Sm (Rp (Ru Eq Eq) (Em r d W0 H0 al)) (f_X10_arc t a1 a2 a3 a4 h) (f_X10_arc t' a1 a2 a3 a4 h') := by
  unfold f_X10_arc
  refine Sm.b (Sm.is gh gt) ?_
  intro _ _ _
  refine Sm.tb (y_X10_needIndex gt gh) ?_
  rintro _ _ _ w3 w3' gw3
  refine Sm.b (Sm.is gw3 gt) ?_
  intro _ _ _
  refine Sm.tb (y_X10_needIndex gt gw3) ?_
  rintro _ _ _ w6 w6' gw6
  refine Sm.b (Sm.is gw6 gt) ?_
  intro _ _ _
  refine Sm.tb (y_X10_needIndex gt gw6) ?_
  rintro _ _ _ w9 w9' gw9
  refine Sm.b (Sm.is gw9 gt) ?_
  intro _ _ _
  refine Sm.tb (y_X10_needIndex gt gw9) ?_
  rintro _ _ _ w12 w12' gw12
  refine Sm.b (Sm.is gw12 gt) ?_
  intro _ _ _
  refine Sm.tb (y_X10_needLooseSchema gt gw12) ?_
  rintro _ _ _ w15 w15' gw15
  refine Sm.b (Sm.gr gw15 gt) ?_
  rintro k16 k16' gk16
  refine Sm.b (Sm.is gw15 gk16) ?_
  intro _ _ _
  refine Sm.b (y_X6_toggleArc gk16 gw15) ?_
  rintro ⟨v17a, v17b⟩ ⟨_, v17b'⟩ ⟨rfl, gv17b⟩
  refine Sm.b (Sm.r) ?_
  rintro z19 _ rfl
  exact Sm.s (Rp.i (Ru.r rfl) gv17b)
set_option maxHeartbeats 2000000 in
theorem y_X10_setFinal {t t' : Nat} {a1 : Int32} {a2 : Int32} {a3 : Int32} {h h' : tq_H} (gt : (Rr r d) t t') (gh : (Em r d W0 H0 al) h h') : Sm (Rp (Ru Eq Eq) (Em r d W0 H0 al)) (f_X10_setFinal t a1 a2 a3 h) (f_X10_setFinal t' a1 a2 a3 h') := by
  unfold f_X10_setFinal
  refine Sm.b (Sm.is gh gt) ?_
  intro _ _ _
  refine Sm.tb (y_X10_needIndex gt gh) ?_
  rintro _ _ _ w3 w3' gw3
  refine Sm.b (Sm.is gw3 gt) ?_
  intro _ _ _
  refine Sm.tb (y_X10_needIndex gt gw3) ?_
  rintro _ _ _ w6 w6' gw6
  refine Sm.b (Sm.is gw6 gt) ?_
  intro _ _ _
  refine Sm.tb (y_X10_needLooseSchema gt gw6) ?_
  rintro _ _ _ w9 w9' gw9
  refine Sm.b (Sm.gr gw9 gt) ?_
  rintro k10 k10' gk10
  refine Sm.b (Sm.is gw9 gk10) ?_
  intro _ _ _
  refine Sm.b (y_X6_markFinal gk10 gw9) ?_
  rintro ⟨v11a, v11b⟩ ⟨_, v11b'⟩ ⟨rfl, gv11b⟩
  refine Sm.b (Sm.r) ?_
  rintro z13 _ rfl
  exact Sm.s (Rp.i (Ru.r rfl) gv11b)
set_option maxHeartbeats 2000000 in
theorem y_X10_allowTexts {t t' : Nat} {a1 : Int32} {a2 : Int32} {h h' : tq_H} (gt : (Rr r d) t t') (gh : (Em r d W0 H0 al) h h') : Sm (Rp (Ru Eq Eq) (Em r d W0 H0 al)) (f_X10_allowTexts t a1 a2 h) (f_X10_allowTexts t' a1 a2 h') := by
  unfold f_X10_allowTexts
  refine Sm.b (Sm.is gh gt) ?_
  intro _ _ _
  refine Sm.tb (y_X10_needIndex gt gh) ?_
  rintro _ _ _ w3 w3' gw3
  refine Sm.b (Sm.is gw3 gt) ?_
  intro _ _ _
  refine Sm.tb (y_X10_needLooseSchema gt gw3) ?_
  rintro _ _ _ w6 w6' gw6
  refine Sm.b (Sm.gr gw6 gt) ?_
  rintro k7 k7' gk7
  refine Sm.b (Sm.is gw6 gk7) ?_
  intro _ _ _
  refine Sm.b (y_X6_markTexts gk7 gw6) ?_
  rintro ⟨v8a, v8b⟩ ⟨_, v8b'⟩ ⟨rfl, gv8b⟩
  refine Sm.b (Sm.r) ?_
  rintro z10 _ rfl
  exact Sm.s (Rp.i (Ru.r rfl) gv8b)
set_option maxHeartbeats 2000000 in
theorem y_X10_attribute {t t' : Nat} {a1 : Int32} {a2 : Int32} {a3 : Int32} {h h' : tq_H} (gt : (Rr r d) t t') (gh : (Em r d W0 H0 al) h h') : Sm (Rp (Ru Eq Eq) (Em r d W0 H0 al)) (f_X10_attribute t a1 a2 a3 h) (f_X10_attribute t' a1 a2 a3 h') := by
  unfold f_X10_attribute
  refine Sm.b (Sm.is gh gt) ?_
  intro _ _ _
  refine Sm.tb (y_X10_needIndex gt gh) ?_
  rintro _ _ _ w3 w3' gw3
  refine Sm.b (Sm.is gw3 gt) ?_
  intro _ _ _
  refine Sm.tb (y_X10_needRange gt gw3) ?_
  rintro _ _ _ w6 w6' gw6
  refine Sm.b (Sm.is gw6 gt) ?_
  intro _ _ _
  refine Sm.tb (y_X10_needRange gt gw6) ?_
  rintro _ _ _ w9 w9' gw9
  refine Sm.b (Sm.is gw9 gt) ?_
  intro _ _ _
  refine Sm.tb (y_X10_needLooseSchema gt gw9) ?_
  rintro _ _ _ w12 w12' gw12
  refine Sm.b (Sm.gr gw12 gt) ?_
  rintro k13 k13' gk13
  refine Sm.b (Sm.is gw12 gk13) ?_
  intro _ _ _
  refine Sm.b (y_X6_giveRule gk13 gw12) ?_
  rintro ⟨v14a, v14b⟩ ⟨_, v14b'⟩ ⟨rfl, gv14b⟩
  exact Sm.s (Rp.i (Ru.r rfl) gv14b)
set_option maxHeartbeats 2000000 in
theorem y_X10_setStrict {t t' : Nat} {a1 : Int32} {h h' : tq_H} (gt : (Rr r d) t t') (gh : (Em r d W0 H0 al) h h') : Sm (Rp (Ru Eq Eq) (Em r d W0 H0 al)) (f_X10_setStrict t a1 h) (f_X10_setStrict t' a1 h') := by
  unfold f_X10_setStrict
  refine Sm.i ?_ ?_
  · refine Sm.b (Sm.gr gh gt) ?_
    rintro k1 k1' gk1
    refine Sm.b (Sm.is gh gk1) ?_
    intro _ _ _
    refine Sm.b (y_X6_markStrict gk1 gh) ?_
    rintro ⟨v2a, v2b⟩ ⟨_, v2b'⟩ ⟨rfl, gv2b⟩
    refine Sm.b (Sm.r) ?_
    rintro z4 _ rfl
    exact Sm.s (Rp.i (Ru.r rfl) gv2b)
  · refine Sm.b (Sm.gr gh gt) ?_
    rintro k5 k5' gk5
    refine Sm.b (Sm.gr gh gt) ?_
    rintro k6 k6' gk6
    refine Sm.b (Sm.is gh gk5) ?_
    intro _ _ _
    refine Sm.b (y_X6_admits gk5 gk6 gh) ?_
    rintro ⟨v7a, v7b⟩ ⟨_, v7b'⟩ ⟨rfl, gv7b⟩
    refine Sm.i ?_ ?_
    · exact Sm.s (Rp.i (Ru.l rfl) gv7b)
    · refine Sm.b (Sm.gr gv7b gt) ?_
      rintro k9 k9' gk9
      refine Sm.b (Sm.is gv7b gk9) ?_
      intro _ _ _
      refine Sm.b (y_X6_markStrict gk9 gv7b) ?_
      rintro ⟨v10a, v10b⟩ ⟨_, v10b'⟩ ⟨rfl, gv10b⟩
      refine Sm.b (Sm.r) ?_
      rintro z12 _ rfl
      exact Sm.s (Rp.i (Ru.r rfl) gv10b)
set_option maxHeartbeats 2000000 in
theorem y_X10_isValid {t t' : Nat} {h h' : tq_H} (gt : (Rr r d) t t') (gh : (Em r d W0 H0 al) h h') : Sm (Rp Eq (Em r d W0 H0 al)) (f_X10_isValid t h) (f_X10_isValid t' h') := by
  unfold f_X10_isValid
  refine Sm.b (Sm.gr gh gt) ?_
  rintro k1 k1' gk1
  refine Sm.b (Sm.gr gh gt) ?_
  rintro k2 k2' gk2
  refine Sm.b (Sm.is gh gk1) ?_
  intro _ _ _
  refine Sm.b (y_X6_admits gk1 gk2 gh) ?_
  rintro ⟨v3a, v3b⟩ ⟨_, v3b'⟩ ⟨rfl, gv3b⟩
  refine Sm.b (Sm.r) ?_
  rintro z5 _ rfl
  exact Sm.s (Rp.i rfl gv3b)
set_option maxHeartbeats 2000000 in
theorem y_X10_types {t t' : Nat} {a1 : Int32} {h h' : tq_H} (gt : (Rr r d) t t') (gh : (Em r d W0 H0 al) h h') : Sm (Rp (Ru Eq Eq) (Em r d W0 H0 al)) (f_X10_types t a1 h) (f_X10_types t' a1 h') := by
  unfold f_X10_types
  refine Sm.b (Sm.is gh gt) ?_
  intro _ _ _
  refine Sm.tb (y_X10_needNode gt gh) ?_
  rintro _ _ _ w3 w3' gw3
  refine Sm.b (Sm.gr gw3 gt) ?_
  rintro k4 k4' gk4
  refine Sm.b (Sm.gr gw3 gt) ?_
  rintro k5 k5' gk5
  refine Sm.b (Sm.gr gw3 gt) ?_
  rintro k6 k6' gk6
  refine Sm.b (Sm.gr gw3 gk6) ?_
  rintro k7 k7' gk7
  refine Sm.b (Sm.is gw3 gk7) ?_
  intro _ _ _
  refine Sm.b (y_X3_spotOf gk7 gw3) ?_
  rintro v8 _ rfl
  refine Sm.b (Sm.is gw3 gk4) ?_
  intro _ _ _
  refine Sm.b (y_X6_typesOf gk4 gk5 gw3) ?_
  rintro ⟨v10a, v10b⟩ ⟨_, v10b'⟩ ⟨rfl, gv10b⟩
  exact Sm.s (Rp.i (Ru.r rfl) gv10b)
set_option maxHeartbeats 2000000 in
theorem y_X10_infer {t t' : Nat} {a1 : Int32} {h h' : tq_H} (gt : (Rr r d) t t') (gh : (Em r d W0 H0 al) h h') : Sm (Rp (Ru Eq Eq) (Em r d W0 H0 al)) (f_X10_infer t a1 h) (f_X10_infer t' a1 h') := by
  unfold f_X10_infer
  refine Sm.b (Sm.is gh gt) ?_
  intro _ _ _
  refine Sm.tb (y_X10_needPath gt gh) ?_
  rintro _ _ _ w3 w3' gw3
  refine Sm.b (Sm.gr gw3 gt) ?_
  rintro k4 k4' gk4
  refine Sm.b (Sm.gr gw3 gt) ?_
  rintro k5 k5' gk5
  refine Sm.b (Sm.is gw3 gk4) ?_
  intro _ _ _
  refine Sm.b (y_X6_tell gk4 gk5 gw3) ?_
  rintro ⟨v6a, v6b⟩ ⟨_, v6b'⟩ ⟨rfl, gv6b⟩
  exact Sm.s (Rp.i (Ru.r rfl) gv6b)
set_option maxHeartbeats 2000000 in
theorem y_X10_index {t t' : Nat} {a1 : Int32} {h h' : tq_H} (gt : (Rr r d) t t') (gh : (Em r d W0 H0 al) h h') : Sm (Rp (Ru Eq Eq) (Em r d W0 H0 al)) (f_X10_index t a1 h) (f_X10_index t' a1 h') := by
  unfold f_X10_index
  refine Sm.b (Sm.is gh gt) ?_
  intro _ _ _
  refine Sm.tb (y_X10_needRange gt gh) ?_
  rintro _ _ _ w3 w3' gw3
  refine Sm.b (Sm.gl gw3 gt) ?_
  rintro x4 _ rfl
  refine Sm.b (y_X0_one gw3) ?_
  rintro v5 _ rfl
  refine Sm.b (Sm.pf gw3 gt (okV_l _)) ?_
  rintro w6 w6' gw6
  refine Sm.b (Sm.gl gw6 gt) ?_
  rintro x7 _ rfl
  refine Sm.b (y_X0_holds gw6) ?_
  rintro v8 _ rfl
  refine Sm.b (Sm.r) ?_
  rintro z9 _ rfl
  exact Sm.s (Rp.i (Ru.r rfl) gw6)
set_option maxHeartbeats 2000000 in
theorem y_X10_plan {t t' : Nat} {a1 : Int32} {h h' : tq_H} (gt : (Rr r d) t t') (gh : (Em r d W0 H0 al) h h') : Sm (Rp (Ru Eq Eq) (Em r d W0 H0 al)) (f_X10_plan t a1 h) (f_X10_plan t' a1 h') := by
  unfold f_X10_plan
  refine Sm.b (Sm.is gh gt) ?_
  intro _ _ _
  refine Sm.tb (y_X10_needPath gt gh) ?_
  rintro _ _ _ w3 w3' gw3
  refine Sm.b (Sm.gr gw3 gt) ?_
  rintro k4 k4' gk4
  refine Sm.b (Sm.gr gw3 gk4) ?_
  rintro k5 k5' gk5
  refine Sm.b (Sm.is gw3 gk5) ?_
  intro _ _ _
  refine Sm.b (y_X3_solids gk5 gw3) ?_
  rintro v6 _ rfl
  refine Sm.b (y_J13_bitCount_95d88 gw3) ?_
  rintro v8 _ rfl
  refine Sm.b (Sm.gr gw3 gt) ?_
  rintro k9 k9' gk9
  refine Sm.b (Sm.is gw3 gk9) ?_
  intro _ _ _
  refine Sm.b (y_X4_nameBelow gk9 gw3) ?_
  rintro v10 _ rfl
  refine Sm.b (Sm.gl gw3 gt) ?_
  rintro x12 _ rfl
  refine Sm.b (y_X0_holds gw3) ?_
  rintro v13 _ rfl
  refine Sm.i ?_ ?_
  · refine Sm.b (Sm.gr gw3 gt) ?_
    rintro k14 k14' gk14
    refine Sm.b (Sm.is gw3 gk14) ?_
    intro _ _ _
    refine Sm.b (y_X4_canStream gk14 gw3) ?_
    rintro v15 _ rfl
    refine Sm.l ?_
    exact Sm.s (Rp.i (Ru.r rfl) gw3)
  · refine Sm.b (Sm.gr gw3 gt) ?_
    rintro k18 k18' gk18
    refine Sm.b (Sm.gr gw3 gk18) ?_
    rintro k19 k19' gk19
    refine Sm.b (Sm.is gw3 gk19) ?_
    intro _ _ _
    refine Sm.b (y_X3_passing gk19 gw3) ?_
    rintro v20 _ rfl
    refine Sm.b (Sm.gr gw3 gt) ?_
    rintro k22 k22' gk22
    refine Sm.b (Sm.gr gw3 gk22) ?_
    rintro k23 k23' gk23
    refine Sm.b (Sm.is gw3 gk23) ?_
    intro _ _ _
    refine Sm.b (y_X3_elements gk23 gw3) ?_
    rintro v24 _ rfl
    refine Sm.b (y_J13_bitCount_95d88 gw3) ?_
    rintro v26 _ rfl
    refine Sm.i ?_ ?_
    · refine Sm.b (Sm.gr gw3 gt) ?_
      rintro k27 k27' gk27
      refine Sm.b (Sm.is gw3 gk27) ?_
      intro _ _ _
      refine Sm.b (y_X4_canStream gk27 gw3) ?_
      rintro v28 _ rfl
      refine Sm.l ?_
      exact Sm.s (Rp.i (Ru.r rfl) gw3)
    · exact Sm.s (Rp.i (Ru.r rfl) gw3)
set_option maxHeartbeats 2000000 in
theorem y_X10_view {t t' : Nat} {a1 : Int32} {h h' : tq_H} (gt : (Rr r d) t t') (gh : (Em r d W0 H0 al) h h') : Sm (Rp (Ru Eq Eq) (Em r d W0 H0 al)) (f_X10_view t a1 h) (f_X10_view t' a1 h') := by
  unfold f_X10_view
  refine Sm.b (Sm.is gh gt) ?_
  intro _ _ _
  refine Sm.tb (y_X10_needPath gt gh) ?_
  rintro _ _ _ w3 w3' gw3
  refine Sm.b (Sm.gi gw3 gt) ?_
  rintro x4 _ rfl
  refine Sm.i ?_ ?_
  · refine Sm.b (Sm.gr gw3 gt) ?_
    rintro k5 k5' gk5
    refine Sm.b (Sm.gi gw3 gt) ?_
    rintro x6 _ rfl
    refine Sm.b (Sm.is gw3 gk5) ?_
    intro _ _ _
    refine Sm.b (y_X5_set gk5 gw3) ?_
    rintro v7 v7' gv7
    refine Sm.b (Sm.gr gv7 gt) ?_
    rintro k9 k9' gk9
    refine Sm.b (Sm.gi gv7 gt) ?_
    rintro x10 _ rfl
    refine Sm.b (Sm.is gv7 gk9) ?_
    intro _ _ _
    refine Sm.b (y_X5_set gk9 gv7) ?_
    rintro v11 v11' gv11
    refine Sm.b (Sm.gi gv11 gt) ?_
    rintro x13 _ rfl
    refine Sm.b (Sm.pf gv11 gt (okV_i _)) ?_
    rintro w14 w14' gw14
    refine Sm.b (Sm.gi gw14 gt) ?_
    rintro x15 _ rfl
    exact Sm.s (Rp.i (Ru.r rfl) gw14)
  · exact Sm.s (Rp.i (Ru.l rfl) gw3)
set_option maxHeartbeats 2000000 in
theorem y_X10_viewed {t t' : Nat} {a1 : Int32} {a2 : Int32} {h h' : tq_H} (gt : (Rr r d) t t') (gh : (Em r d W0 H0 al) h h') : Sm (Rp (Ru Eq Eq) (Em r d W0 H0 al)) (f_X10_viewed t a1 a2 h) (f_X10_viewed t' a1 a2 h') := by
  unfold f_X10_viewed
  refine Sm.b (Sm.gi gh gt) ?_
  rintro x1 _ rfl
  refine Sm.b (Sm.is gh gt) ?_
  intro _ _ _
  refine Sm.tb (y_X10_needIndex gt gh) ?_
  rintro _ _ _ w4 w4' gw4
  refine Sm.b (Sm.is gw4 gt) ?_
  intro _ _ _
  refine Sm.tb (y_X10_needNotNegative gt gw4) ?_
  rintro _ _ _ w7 w7' gw7
  refine Sm.b (Sm.gr gw7 gt) ?_
  rintro k8 k8' gk8
  refine Sm.b (Sm.is gw7 gk8) ?_
  intro _ _ _
  refine Sm.b (y_X5_get gk8 gw7) ?_
  rintro v9 _ rfl
  refine Sm.b (Sm.gr gw7 gt) ?_
  rintro k11 k11' gk11
  refine Sm.b (Sm.is gw7 gk11) ?_
  intro _ _ _
  refine Sm.b (y_X2_prepare gk11 gw7) ?_
  rintro v12 v12' gv12
  refine Sm.b (Sm.gr gv12 gt) ?_
  rintro k14 k14' gk14
  refine Sm.b (Sm.gr gv12 gk14) ?_
  rintro k15 k15' gk15
  refine Sm.b (Sm.gr gv12 gt) ?_
  rintro k16 k16' gk16
  refine Sm.b (Sm.is gv12 gk16) ?_
  intro _ _ _
  refine Sm.b (y_X2_foundFrom gk16 gv12) ?_
  rintro v17 _ rfl
  refine Sm.b (Sm.is gv12 gk15) ?_
  intro _ _ _
  refine Sm.b (y_X3_nodeOfSet gk15 gv12) ?_
  rintro v19 _ rfl
  exact Sm.s (Rp.i (Ru.r rfl) gv12)
set_option maxHeartbeats 2000000 in
theorem y_X10_changed {t t' : Nat} {a1 : Int32} {h h' : tq_H} (gt : (Rr r d) t t') (gh : (Em r d W0 H0 al) h h') : Sm (Rp (Ru Eq Eq) (Em r d W0 H0 al)) (f_X10_changed t a1 h) (f_X10_changed t' a1 h') := by
  unfold f_X10_changed
  refine Sm.b (Sm.gi gh gt) ?_
  rintro x1 _ rfl
  refine Sm.b (Sm.is gh gt) ?_
  intro _ _ _
  refine Sm.tb (y_X10_needIndex gt gh) ?_
  rintro _ _ _ w4 w4' gw4
  refine Sm.b (Sm.gr gw4 gt) ?_
  rintro k5 k5' gk5
  refine Sm.b (Sm.is gw4 gk5) ?_
  intro _ _ _
  refine Sm.b (y_X5_get gk5 gw4) ?_
  rintro v6 _ rfl
  exact Sm.s (Rp.i (Ru.r rfl) gw4)
set_option maxHeartbeats 2000000 in
theorem y_X10_ranked {t t' : Nat} {a1 : Int32} {a2 : Int32} {h h' : tq_H} (gt : (Rr r d) t t') (gh : (Em r d W0 H0 al) h h') : Sm (Rp (Ru Eq Eq) (Em r d W0 H0 al)) (f_X10_ranked t a1 a2 h) (f_X10_ranked t' a1 a2 h') := by
  unfold f_X10_ranked
  refine Sm.b (Sm.is gh gt) ?_
  intro _ _ _
  refine Sm.tb (y_X10_needNotNegative gt gh) ?_
  rintro _ _ _ w3 w3' gw3
  refine Sm.b (Sm.is gw3 gt) ?_
  intro _ _ _
  refine Sm.tb (y_X10_needRange gt gw3) ?_
  rintro _ _ _ w6 w6' gw6
  refine Sm.b (Sm.gr gw6 gt) ?_
  rintro k7 k7' gk7
  refine Sm.b (Sm.gr gw6 gk7) ?_
  rintro k8 k8' gk8
  refine Sm.b (Sm.gr gw6 gt) ?_
  rintro k9 k9' gk9
  refine Sm.b (Sm.gr gw6 gt) ?_
  rintro k10 k10' gk10
  refine Sm.b (Sm.is gw6 gk10) ?_
  intro _ _ _
  refine Sm.b (y_X8_textsWorth gk10 gw6) ?_
  rintro v11 _ rfl
  refine Sm.b (Sm.is gw6 gk9) ?_
  intro _ _ _
  refine Sm.b (y_X8_rankedSpot gk9 gw6) ?_
  rintro v13 _ rfl
  refine Sm.b (Sm.is gw6 gk8) ?_
  intro _ _ _
  refine Sm.b (y_X3_nodeAt gk8 gw6) ?_
  rintro v15 _ rfl
  exact Sm.s (Rp.i (Ru.r rfl) gw6)
set_option maxHeartbeats 2000000 in
theorem y_X10_keep {t t' : Nat} {h h' : tq_H} (ha : al) (gt : (Rr r d) t t') (gh : (Em r d W0 H0 al) h h') : Sm (Rp (Ru Eq Eq) (Em r d W0 H0 al)) (f_X10_keep t h) (f_X10_keep t' h') := by
  unfold f_X10_keep
  refine Sm.b (Sm.gi gh gt) ?_
  rintro x1 _ rfl
  refine Sm.i ?_ ?_
  · exact Sm.s (Rp.i (Ru.l rfl) gh)
  · refine Sm.b (Sm.gi gh gt) ?_
    rintro x2 _ rfl
    refine Sm.b (Sm.gr gh gt) ?_
    rintro k3 k3' gk3
    refine Sm.b (Sm.an gh gk3) ?_
    rintro x4 _ rfl
    refine Sm.i ?_ ?_
    · refine Sm.n ha gh (okO_l rfl) (fun w5 w5' gw5 => ?_)
      refine Sm.b (y_X8_init ha (gh.nr ha) gw5) ?_
      rintro v6 v6' gv6
      refine Sm.b (Sm.gr gv6 gt) ?_
      rintro k7 k7' gk7
      refine Sm.b (Sm.is gv6 (gh.nr ha)) ?_
      intro _ _ _
      refine Sm.b (y_X8_copy (gh.nr ha) gk7 gv6) ?_
      rintro v8 v8' gv8
      refine Sm.b (Sm.gr gv8 gt) ?_
      rintro k10 k10' gk10
      refine Sm.b (Sm.gi gv8 gt) ?_
      rintro x11 _ rfl
      refine Sm.b (Sm.sq gv8 gk10 (gh.nr ha)) ?_
      rintro w12 w12' gw12
      refine Sm.b (Sm.gi gw12 gt) ?_
      rintro x13 _ rfl
      refine Sm.b (Sm.pf gw12 gt (okV_i _)) ?_
      rintro w14 w14' gw14
      refine Sm.b (Sm.gi gw14 gt) ?_
      rintro x15 _ rfl
      exact Sm.s (Rp.i (Ru.r rfl) gw14)
    · exact Sm.s (Rp.i (Ru.l rfl) gh)
set_option maxHeartbeats 2000000 in
theorem y_X10_neededVersion {t t' : Nat} {a1 : Int32} {h h' : tq_H} (gt : (Rr r d) t t') (gh : (Em r d W0 H0 al) h h') : Sm (Rp (Ru Eq (Rr r d)) (Em r d W0 H0 al)) (f_X10_neededVersion t a1 h) (f_X10_neededVersion t' a1 h') := by
  unfold f_X10_neededVersion
  refine Sm.i ?_ ?_
  · exact Sm.s (Rp.i (Ru.l rfl) gh)
  · refine Sm.b (Sm.gr gh gt) ?_
    rintro k1 k1' gk1
    refine Sm.b (Sm.an gh gk1) ?_
    rintro x2 _ rfl
    refine Sm.i ?_ ?_
    · refine Sm.b (Sm.gr gh gt) ?_
      rintro k3 k3' gk3
      refine Sm.o (Sm.aq gh gk3) ?_ ?_
      · exact Sm.s (Rp.i (Ru.l rfl) gh)
      · intro b5 b5' gb5
        exact Sm.s (Rp.i (Ru.r gb5) gh)
    · exact Sm.s (Rp.i (Ru.l rfl) gh)
set_option maxHeartbeats 2000000 in
theorem y_X10_take {t t' : Nat} {a1 : Int32} {h h' : tq_H} (gt : (Rr r d) t t') (gh : (Em r d W0 H0 al) h h') : Sm (Rp (Ru Eq Eq) (Em r d W0 H0 al)) (f_X10_take t a1 h) (f_X10_take t' a1 h') := by
  unfold f_X10_take
  refine Sm.b (Sm.is gh gt) ?_
  intro _ _ _
  refine Sm.tb (y_X10_neededVersion gt gh) ?_
  rintro v1 v1' gv1 w3 w3' gw3
  refine Sm.b (Sm.gr gw3 gt) ?_
  rintro k4 k4' gk4
  refine Sm.b (Sm.is gw3 gk4) ?_
  intro _ _ _
  refine Sm.b (y_X9_count gk4 gw3) ?_
  rintro v5 _ rfl
  refine Sm.i ?_ ?_
  · refine Sm.b (Sm.gr gw3 gt) ?_
    rintro k7 k7' gk7
    refine Sm.b (Sm.is gw3 gk7) ?_
    intro _ _ _
    refine Sm.b (y_X6_isStrict gk7 gw3) ?_
    rintro v8 _ rfl
    refine Sm.i ?_ ?_
    · refine Sm.b (Sm.gr gw3 gt) ?_
      rintro k10 k10' gk10
      refine Sm.b (Sm.is gw3 gk10) ?_
      intro _ _ _
      refine Sm.b (y_X8_copy gk10 gv1 gw3) ?_
      rintro v11 v11' gv11
      refine Sm.b (Sm.gr gv11 gt) ?_
      rintro k13 k13' gk13
      refine Sm.b (Sm.gr gv11 gt) ?_
      rintro k14 k14' gk14
      refine Sm.b (Sm.is gv11 gk14) ?_
      intro _ _ _
      refine Sm.b (y_X8_madeCount gk14 gv11) ?_
      rintro v15 _ rfl
      refine Sm.b (Sm.is gv11 gk13) ?_
      intro _ _ _
      refine Sm.b (y_X8_keepMade gk13 gv11) ?_
      rintro v17 v17' gv17
      refine Sm.b (Sm.gr gv17 gt) ?_
      rintro k19 k19' gk19
      refine Sm.b (Sm.is gv17 gk19) ?_
      intro _ _ _
      refine Sm.b (y_X8_numberAnew gk19 gv17) ?_
      rintro v20 v20' gv20
      refine Sm.b (Sm.is gv20 gt) ?_
      intro _ _ _
      refine Sm.b (y_X10_settle gt gv20) ?_
      rintro v22 v22' gv22
      refine Sm.b (Sm.gr gv22 gt) ?_
      rintro k24 k24' gk24
      refine Sm.b (Sm.gr gv22 gk24) ?_
      rintro k25 k25' gk25
      refine Sm.b (Sm.is gv22 gk25) ?_
      intro _ _ _
      refine Sm.b (y_X3_count gk25 gv22) ?_
      rintro v26 _ rfl
      exact Sm.s (Rp.i (Ru.r rfl) gv22)
    · refine Sm.b (Sm.gr gw3 gt) ?_
      rintro k28 k28' gk28
      refine Sm.b (Sm.is gw3 gk28) ?_
      intro _ _ _
      refine Sm.b (y_X6_admits gk28 gv1 gw3) ?_
      rintro ⟨v29a, v29b⟩ ⟨_, v29b'⟩ ⟨rfl, gv29b⟩
      refine Sm.i ?_ ?_
      · exact Sm.s (Rp.i (Ru.l rfl) gv29b)
      · refine Sm.b (Sm.gr gv29b gt) ?_
        rintro k31 k31' gk31
        refine Sm.b (Sm.is gv29b gk31) ?_
        intro _ _ _
        refine Sm.b (y_X8_copy gk31 gv1 gv29b) ?_
        rintro v32 v32' gv32
        refine Sm.b (Sm.gr gv32 gt) ?_
        rintro k34 k34' gk34
        refine Sm.b (Sm.gr gv32 gt) ?_
        rintro k35 k35' gk35
        refine Sm.b (Sm.is gv32 gk35) ?_
        intro _ _ _
        refine Sm.b (y_X8_madeCount gk35 gv32) ?_
        rintro v36 _ rfl
        refine Sm.b (Sm.is gv32 gk34) ?_
        intro _ _ _
        refine Sm.b (y_X8_keepMade gk34 gv32) ?_
        rintro v38 v38' gv38
        refine Sm.b (Sm.gr gv38 gt) ?_
        rintro k40 k40' gk40
        refine Sm.b (Sm.is gv38 gk40) ?_
        intro _ _ _
        refine Sm.b (y_X8_numberAnew gk40 gv38) ?_
        rintro v41 v41' gv41
        refine Sm.b (Sm.is gv41 gt) ?_
        intro _ _ _
        refine Sm.b (y_X10_settle gt gv41) ?_
        rintro v43 v43' gv43
        refine Sm.b (Sm.gr gv43 gt) ?_
        rintro k45 k45' gk45
        refine Sm.b (Sm.gr gv43 gk45) ?_
        rintro k46 k46' gk46
        refine Sm.b (Sm.is gv43 gk46) ?_
        intro _ _ _
        refine Sm.b (y_X3_count gk46 gv43) ?_
        rintro v47 _ rfl
        exact Sm.s (Rp.i (Ru.r rfl) gv43)
  · exact Sm.s (Rp.i (Ru.l rfl) gw3)
set_option maxHeartbeats 2000000 in
theorem y_X10_distance {t t' : Nat} {a1 : Int32} {a2 : Int32} {h h' : tq_H} (ha : al) (gt : (Rr r d) t t') (gh : (Em r d W0 H0 al) h h') : Sm (Rp (Ru Eq Eq) (Em r d W0 H0 al)) (f_X10_distance t a1 a2 h) (f_X10_distance t' a1 a2 h') := by
  unfold f_X10_distance
  refine Sm.b (Sm.is gh gt) ?_
  intro _ _ _
  refine Sm.tb (y_X10_neededVersion gt gh) ?_
  rintro v1 v1' gv1 w3 w3' gw3
  refine Sm.b (Sm.is gw3 gt) ?_
  intro _ _ _
  refine Sm.tb (y_X10_neededVersion gt gw3) ?_
  rintro v4 v4' gv4 w6 w6' gw6
  refine Sm.o (Sm.gq gw6 gt) ?_ ?_
  · refine Sm.n ha gw6 (okO_l rfl) (fun w9 w9' gw9 => ?_)
    refine Sm.b (y_X1_init ha (gw6.nr ha) gw9) ?_
    rintro v10 v10' gv10
    refine Sm.b (Sm.pf gv10 gt (okV_r (gw6.nr ha))) ?_
    rintro w11 w11' gw11
    refine Sm.o (Sm.gq gw11 gt) ?_ ?_
    · exact Sm.no
    · intro b13 b13' gb13
      refine Sm.b (Sm.is gw11 gb13) ?_
      intro _ _ _
      refine Sm.b (y_X1_known gb13 gw11) ?_
      rintro v14 _ rfl
      refine Sm.i ?_ ?_
      · refine Sm.o (Sm.gq gw11 gt) ?_ ?_
        · exact Sm.no
        · intro b17 b17' gb17
          refine Sm.b (Sm.is gw11 gb17) ?_
          intro _ _ _
          refine Sm.b (y_X1_count gb17 gv1 gv4 gw11) ?_
          rintro ⟨v18a, v18b⟩ ⟨_, v18b'⟩ ⟨rfl, gv18b⟩
          refine Sm.o (Sm.gq gv18b gt) ?_ ?_
          · exact Sm.no
          · intro b21 b21' gb21
            refine Sm.b (Sm.is gv18b gb21) ?_
            intro _ _ _
            refine Sm.b (y_X1_note gb21 gv18b) ?_
            rintro v22 v22' gv22
            exact Sm.s (Rp.i (Ru.r rfl) gv22)
      · exact Sm.s (Rp.i (Ru.r rfl) gw11)
  · intro b8 b8' gb8
    refine Sm.o (Sm.gq gw6 gt) ?_ ?_
    · exact Sm.no
    · intro b25 b25' gb25
      refine Sm.b (Sm.is gw6 gb25) ?_
      intro _ _ _
      refine Sm.b (y_X1_known gb25 gw6) ?_
      rintro v26 _ rfl
      refine Sm.i ?_ ?_
      · refine Sm.o (Sm.gq gw6 gt) ?_ ?_
        · exact Sm.no
        · intro b29 b29' gb29
          refine Sm.b (Sm.is gw6 gb29) ?_
          intro _ _ _
          refine Sm.b (y_X1_count gb29 gv1 gv4 gw6) ?_
          rintro ⟨v30a, v30b⟩ ⟨_, v30b'⟩ ⟨rfl, gv30b⟩
          refine Sm.o (Sm.gq gv30b gt) ?_ ?_
          · exact Sm.no
          · intro b33 b33' gb33
            refine Sm.b (Sm.is gv30b gb33) ?_
            intro _ _ _
            refine Sm.b (y_X1_note gb33 gv30b) ?_
            rintro v34 v34' gv34
            exact Sm.s (Rp.i (Ru.r rfl) gv34)
      · exact Sm.s (Rp.i (Ru.r rfl) gw6)
set_option maxHeartbeats 2000000 in
theorem y_X10_odds_b27 {i4 i4' : Nat} {i5 i5' : Nat} {i6 i6' : Nat} {hh hh' : tq_H} (gi4 : (Rr r d) i4 i4') (gi5 : (Rr r d) i5 i5') (gi6 : (Rr r d) i6 i6') (ghh : (Em r d W0 H0 al) hh hh') : ∀ s s', (Rp Eq Eq) s s' → Sm (Ru (Rp Eq Eq) Eq) (f_X10_odds_b27 i4 i5 i6 hh s) (f_X10_odds_b27 i4' i5' i6' hh' s') := by
  rintro ⟨y7, y8⟩ ⟨_, _⟩ ⟨rfl, rfl⟩
  dsimp only [f_X10_odds_b27]
  refine Sm.i ?_ ?_
  · exact Sm.s (Ru.r rfl)
  · refine Sm.b (Sm.is ghh gi4) ?_
    intro _ _ _
    refine Sm.b (y_X8_differs gi4 gi5 ghh) ?_
    rintro v10 _ rfl
    refine Sm.b (R := Eq) ?_ ?_
    · refine Sm.i ?_ ?_
      · exact Sm.s rfl
      · refine Sm.b (Sm.is ghh gi5) ?_
        intro _ _ _
        refine Sm.b (y_X8_differs gi5 gi6 ghh) ?_
        rintro v12 _ rfl
        refine Sm.i ?_ ?_
        · exact Sm.s rfl
        · refine Sm.b (Sm.is ghh gi6) ?_
          intro _ _ _
          refine Sm.b (y_X8_differs gi6 gi4 ghh) ?_
          rintro v14 _ rfl
          refine Sm.i ?_ ?_
          · exact Sm.s rfl
          · refine Sm.l ?_
            exact Sm.s rfl
    · rintro p17 _ rfl
      refine Sm.l ?_
      exact Sm.s (Ru.l (Rp.i rfl rfl))
set_option maxHeartbeats 2000000 in
theorem y_X10_odds {t t' : Nat} {a1 : Int32} {a2 : Int32} {a3 : Int32} {h h' : tq_H} (gt : (Rr r d) t t') (gh : (Em r d W0 H0 al) h h') : Sm (Rp (Ru Eq Eq) (Em r d W0 H0 al)) (f_X10_odds t a1 a2 a3 h) (f_X10_odds t' a1 a2 a3 h') := by
  unfold f_X10_odds
  refine Sm.b (Sm.is gh gt) ?_
  intro _ _ _
  refine Sm.tb (y_X10_neededVersion gt gh) ?_
  rintro v1 v1' gv1 w3 w3' gw3
  refine Sm.b (Sm.is gw3 gt) ?_
  intro _ _ _
  refine Sm.tb (y_X10_neededVersion gt gw3) ?_
  rintro v4 v4' gv4 w6 w6' gw6
  refine Sm.b (Sm.is gw6 gt) ?_
  intro _ _ _
  refine Sm.tb (y_X10_neededVersion gt gw6) ?_
  rintro v7 v7' gv7 w9 w9' gw9
  refine Sm.b (Sm.w (y_X10_odds_b27 gv1 gv4 gv7 gw9) tq_N (Rp.i rfl rfl)) ?_
  rintro o19 _ rfl
  exact Sm.s (Rp.i (Ru.r rfl) gw9)
set_option maxHeartbeats 2000000 in
theorem y_X10_hide {t t' : Nat} {a1 : Int32} {h h' : tq_H} (gt : (Rr r d) t t') (gh : (Em r d W0 H0 al) h h') : Sm (Rp (Ru Eq Eq) (Em r d W0 H0 al)) (f_X10_hide t a1 h) (f_X10_hide t' a1 h') := by
  unfold f_X10_hide
  refine Sm.b (Sm.is gh gt) ?_
  intro _ _ _
  refine Sm.tb (y_X10_needPath gt gh) ?_
  rintro _ _ _ w3 w3' gw3
  refine Sm.b (Sm.gl gw3 gt) ?_
  rintro x4 _ rfl
  refine Sm.b (y_X0_holds gw3) ?_
  rintro v5 _ rfl
  refine Sm.i ?_ ?_
  · refine Sm.b (Sm.gl gw3 gt) ?_
    rintro x13 _ rfl
    refine Sm.b (y_J13_bitCount_95d88 gw3) ?_
    rintro v14 _ rfl
    refine Sm.i ?_ ?_
    · refine Sm.b (Sm.gl gw3 gt) ?_
      rintro x15 _ rfl
      refine Sm.b (y_X0_one gw3) ?_
      rintro v16 _ rfl
      refine Sm.b (Sm.pf gw3 gt (okV_l _)) ?_
      rintro w17 w17' gw17
      refine Sm.b (Sm.pf gw17 gt (okV_i _)) ?_
      rintro w18 w18' gw18
      refine Sm.b (Sm.gl gw18 gt) ?_
      rintro x19 _ rfl
      refine Sm.b (y_X0_holds gw18) ?_
      rintro v20 _ rfl
      refine Sm.b (Sm.r) ?_
      rintro z21 _ rfl
      exact Sm.s (Rp.i (Ru.r rfl) gw18)
    · exact Sm.s (Rp.i (Ru.l rfl) gw3)
  · refine Sm.b (Sm.gl gw3 gt) ?_
    rintro x6 _ rfl
    refine Sm.b (y_X0_one gw3) ?_
    rintro v7 _ rfl
    refine Sm.b (Sm.pf gw3 gt (okV_l _)) ?_
    rintro w8 w8' gw8
    refine Sm.b (Sm.pf gw8 gt (okV_i _)) ?_
    rintro w9 w9' gw9
    refine Sm.b (Sm.gl gw9 gt) ?_
    rintro x10 _ rfl
    refine Sm.b (y_X0_holds gw9) ?_
    rintro v11 _ rfl
    refine Sm.b (Sm.r) ?_
    rintro z12 _ rfl
    exact Sm.s (Rp.i (Ru.r rfl) gw9)
set_option maxHeartbeats 2000000 in
theorem y_X10_isSeen {t t' : Nat} {a1 : Int32} {h h' : tq_H} (gt : (Rr r d) t t') (gh : (Em r d W0 H0 al) h h') : Sm (Rp (Ru Eq Eq) (Em r d W0 H0 al)) (f_X10_isSeen t a1 h) (f_X10_isSeen t' a1 h') := by
  unfold f_X10_isSeen
  refine Sm.b (Sm.is gh gt) ?_
  intro _ _ _
  refine Sm.tb (y_X10_needNode gt gh) ?_
  rintro _ _ _ w3 w3' gw3
  refine Sm.b (Sm.is gw3 gt) ?_
  intro _ _ _
  refine Sm.b (y_X10_refreshedReader gt gw3) ?_
  rintro ⟨v4a, v4b⟩ ⟨v4a', v4b'⟩ ⟨gv4a, gv4b⟩
  refine Sm.b (Sm.gr gv4b gt) ?_
  rintro k6 k6' gk6
  refine Sm.b (Sm.gr gv4b gk6) ?_
  rintro k7 k7' gk7
  refine Sm.b (Sm.is gv4b gk7) ?_
  intro _ _ _
  refine Sm.b (y_X3_spotOf gk7 gv4b) ?_
  rintro v8 _ rfl
  refine Sm.b (Sm.is gv4b gv4a) ?_
  intro _ _ _
  refine Sm.b (y_X2_sees gv4a gv4b) ?_
  rintro v10 _ rfl
  refine Sm.b (Sm.r) ?_
  rintro z12 _ rfl
  exact Sm.s (Rp.i (Ru.r rfl) gv4b)
end SY
