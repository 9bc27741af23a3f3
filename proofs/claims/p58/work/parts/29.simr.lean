/-! ===== printed by wip/p58/tools/gen_sim.py: the reference in two worlds ===== -/
section SY
variable {r : Nat → Nat} {d : Nat → Prop} {W0 H0 : tq_H} {al : Prop}
set_option maxHeartbeats 2000000 in
theorem y_X11_attributeOf_b5 {i0 i0' : Nat} {i1 : Int32} {i2 : Int32} {hh hh' : tq_H} (gi0 : (Rr r d) i0 i0') (ghh : (Em r d W0 H0 al) hh hh') : ∀ s s', (Rp Eq Eq) s s' → Sm (Ru (Rp Eq Eq) Eq) (f_X11_attributeOf_b5 i0 i1 i2 hh s) (f_X11_attributeOf_b5 i0' i1 i2 hh' s') := by
  rintro ⟨y3, y4⟩ ⟨_, _⟩ ⟨rfl, rfl⟩
  dsimp only [f_X11_attributeOf_b5]
  refine Sm.b (Sm.gi ghh gi0) ?_
  rintro x1 _ rfl
  refine Sm.i ?_ ?_
  · exact Sm.s (Ru.r rfl)
  · refine Sm.b (Sm.gr ghh gi0) ?_
    rintro k2 k2' gk2
    refine Sm.b (Sm.az ghh gk2) ?_
    rintro x3 _ rfl
    refine Sm.b (R := Eq) ?_ ?_
    · refine Sm.i ?_ ?_
      · exact Sm.s rfl
      · refine Sm.b (Sm.gr ghh gi0) ?_
        rintro k4 k4' gk4
        refine Sm.b (Sm.ai ghh gk4) ?_
        rintro x5 _ rfl
        refine Sm.i ?_ ?_
        · refine Sm.b (Sm.gr ghh gi0) ?_
          rintro k6 k6' gk6
          refine Sm.b (Sm.ai ghh gk6) ?_
          rintro x7 _ rfl
          refine Sm.i ?_ ?_
          · refine Sm.b (Sm.gr ghh gi0) ?_
            rintro k8 k8' gk8
            refine Sm.b (Sm.ai ghh gk8) ?_
            rintro x9 _ rfl
            refine Sm.i ?_ ?_
            · exact Sm.s rfl
            · exact Sm.s rfl
          · exact Sm.s rfl
        · exact Sm.s rfl
    · rintro p10 _ rfl
      refine Sm.l ?_
      exact Sm.s (Ru.l (Rp.i rfl rfl))
set_option maxHeartbeats 2000000 in
theorem y_X11_attributeOf {t t' : Nat} {a1 : Int32} {a2 : Int32} {h h' : tq_H} (gt : (Rr r d) t t') (gh : (Em r d W0 H0 al) h h') : Sm Eq (f_X11_attributeOf t a1 a2 h) (f_X11_attributeOf t' a1 a2 h') := by
  unfold f_X11_attributeOf
  refine Sm.b (Sm.w (y_X11_attributeOf_b5 gt gh) tq_N (Rp.i rfl rfl)) ?_
  rintro o12 _ rfl
  exact Sm.s rfl
set_option maxHeartbeats 2000000 in
theorem y_X11_childCount_b4 {i0 i0' : Nat} {i1 : Int32} {hh hh' : tq_H} (gi0 : (Rr r d) i0 i0') (ghh : (Em r d W0 H0 al) hh hh') : ∀ s s', (Rp Eq Eq) s s' → Sm (Ru (Rp Eq Eq) Eq) (f_X11_childCount_b4 i0 i1 hh s) (f_X11_childCount_b4 i0' i1 hh' s') := by
  rintro ⟨y2, y3⟩ ⟨_, _⟩ ⟨rfl, rfl⟩
  dsimp only [f_X11_childCount_b4]
  refine Sm.b (Sm.gi ghh gi0) ?_
  rintro x1 _ rfl
  refine Sm.i ?_ ?_
  · exact Sm.s (Ru.r rfl)
  · refine Sm.b (Sm.gr ghh gi0) ?_
    rintro k2 k2' gk2
    refine Sm.b (Sm.az ghh gk2) ?_
    rintro x3 _ rfl
    refine Sm.b (R := Eq) ?_ ?_
    · refine Sm.i ?_ ?_
      · exact Sm.s rfl
      · refine Sm.b (Sm.gr ghh gi0) ?_
        rintro k4 k4' gk4
        refine Sm.b (Sm.ai ghh gk4) ?_
        rintro x5 _ rfl
        refine Sm.i ?_ ?_
        · refine Sm.b (Sm.gr ghh gi0) ?_
          rintro k6 k6' gk6
          refine Sm.b (Sm.ai ghh gk6) ?_
          rintro x7 _ rfl
          refine Sm.i ?_ ?_
          · exact Sm.s rfl
          · exact Sm.s rfl
        · exact Sm.s rfl
    · rintro p8 _ rfl
      refine Sm.l ?_
      refine Sm.l ?_
      exact Sm.s (Ru.l (Rp.i rfl rfl))
set_option maxHeartbeats 2000000 in
theorem y_X11_childCount {t t' : Nat} {a1 : Int32} {h h' : tq_H} (gt : (Rr r d) t t') (gh : (Em r d W0 H0 al) h h') : Sm Eq (f_X11_childCount t a1 h) (f_X11_childCount t' a1 h') := by
  unfold f_X11_childCount
  refine Sm.b (Sm.w (y_X11_childCount_b4 gt gh) tq_N (Rp.i rfl rfl)) ?_
  rintro o11 _ rfl
  exact Sm.s rfl
set_option maxHeartbeats 2000000 in
theorem y_X11_childAt_b5 {i0 i0' : Nat} {i1 : Int32} {i2 : Int32} {hh hh' : tq_H} (gi0 : (Rr r d) i0 i0') (ghh : (Em r d W0 H0 al) hh hh') : ∀ s s', (Rp Eq Eq) s s' → Sm (Ru (Rp Eq Eq) Eq) (f_X11_childAt_b5 i0 i1 i2 hh s) (f_X11_childAt_b5 i0' i1 i2 hh' s') := by
  rintro ⟨y3, y4⟩ ⟨_, _⟩ ⟨rfl, rfl⟩
  dsimp only [f_X11_childAt_b5]
  refine Sm.b (Sm.gi ghh gi0) ?_
  rintro x1 _ rfl
  refine Sm.i ?_ ?_
  · exact Sm.s (Ru.r rfl)
  · refine Sm.b (Sm.gr ghh gi0) ?_
    rintro k2 k2' gk2
    refine Sm.b (Sm.az ghh gk2) ?_
    rintro x3 _ rfl
    refine Sm.b (R := Eq) ?_ ?_
    · refine Sm.i ?_ ?_
      · exact Sm.s rfl
      · refine Sm.b (Sm.gr ghh gi0) ?_
        rintro k4 k4' gk4
        refine Sm.b (Sm.ai ghh gk4) ?_
        rintro x5 _ rfl
        refine Sm.i ?_ ?_
        · refine Sm.b (Sm.gr ghh gi0) ?_
          rintro k6 k6' gk6
          refine Sm.b (Sm.ai ghh gk6) ?_
          rintro x7 _ rfl
          refine Sm.i ?_ ?_
          · exact Sm.s rfl
          · refine Sm.b (Sm.gr ghh gi0) ?_
            rintro k8 k8' gk8
            refine Sm.b (Sm.ai ghh gk8) ?_
            rintro x9 _ rfl
            refine Sm.i ?_ ?_
            · exact Sm.s rfl
            · exact Sm.s rfl
        · exact Sm.s rfl
    · rintro p10 _ rfl
      refine Sm.l ?_
      exact Sm.s (Ru.l (Rp.i rfl rfl))
set_option maxHeartbeats 2000000 in
theorem y_X11_childAt {t t' : Nat} {a1 : Int32} {a2 : Int32} {h h' : tq_H} (gt : (Rr r d) t t') (gh : (Em r d W0 H0 al) h h') : Sm Eq (f_X11_childAt t a1 a2 h) (f_X11_childAt t' a1 a2 h') := by
  unfold f_X11_childAt
  refine Sm.b (Sm.w (y_X11_childAt_b5 gt gh) tq_N (Rp.i rfl rfl)) ?_
  rintro o12 _ rfl
  exact Sm.s rfl
set_option maxHeartbeats 2000000 in
theorem y_X11_arrange_b16 {i0 i0' : Nat} {i1 : Int32} (gi0 : (Rr r d) i0 i0') : ∀ s s', (Rp Eq (Em r d W0 H0 al)) s s' → Sm (Ru (Rp Eq (Em r d W0 H0 al)) (Em r d W0 H0 al)) (f_X11_arrange_b16 i0 i1 s) (f_X11_arrange_b16 i0' i1 s') := by
  rintro ⟨y2, hh⟩ ⟨_, hh'⟩ ⟨rfl, ghh⟩
  dsimp only [f_X11_arrange_b16]
  refine Sm.i ?_ ?_
  · exact Sm.s (Ru.r ghh)
  · refine Sm.b (Sm.gr ghh gi0) ?_
    rintro k4 k4' gk4
    refine Sm.b (Sm.si ghh gk4) ?_
    rintro w5 w5' gw5
    refine Sm.l ?_
    exact Sm.s (Ru.l (Rp.i rfl gw5))
set_option maxHeartbeats 2000000 in
theorem y_X11_arrange_b81 {i0 i0' : Nat} {i1 : Int32} {i2 : Int32} (gi0 : (Rr r d) i0 i0') : ∀ s s', (Rp Eq (Em r d W0 H0 al)) s s' → Sm (Ru (Rp Eq (Em r d W0 H0 al)) (Em r d W0 H0 al)) (f_X11_arrange_b81 i0 i1 i2 s) (f_X11_arrange_b81 i0' i1 i2 s') := by
  rintro ⟨y3, hh⟩ ⟨_, hh'⟩ ⟨rfl, ghh⟩
  dsimp only [f_X11_arrange_b81]
  refine Sm.i ?_ ?_
  · exact Sm.s (Ru.r ghh)
  · refine Sm.b (Sm.is ghh gi0) ?_
    intro _ _ _
    refine Sm.b (y_X11_attributeOf gi0 ghh) ?_
    rintro v19 _ rfl
    refine Sm.b (R := (Em r d W0 H0 al)) ?_ ?_
    · refine Sm.i ?_ ?_
      · exact Sm.s ghh
      · refine Sm.b (Sm.gr ghh gi0) ?_
        rintro k21 k21' gk21
        refine Sm.b (Sm.gi ghh gi0) ?_
        rintro x22 _ rfl
        refine Sm.b (Sm.si ghh gk21) ?_
        rintro w23 w23' gw23
        refine Sm.b (Sm.gr gw23 gi0) ?_
        rintro k24 k24' gk24
        refine Sm.b (Sm.gi gw23 gi0) ?_
        rintro x25 _ rfl
        refine Sm.b (Sm.si gw23 gk24) ?_
        rintro w26 w26' gw26
        refine Sm.b (Sm.gi gw26 gi0) ?_
        rintro x27 _ rfl
        refine Sm.b (Sm.pf gw26 gi0 (okV_i _)) ?_
        rintro w28 w28' gw28
        exact Sm.s gw28
    · rintro p29 p29' gp29
      refine Sm.l ?_
      exact Sm.s (Ru.l (Rp.i rfl gp29))
set_option maxHeartbeats 2000000 in
theorem y_X11_arrange_b147 {i0 i0' : Nat} {i2 : Int32} (gi0 : (Rr r d) i0 i0') : ∀ s s', (Rp Eq (Rp Eq (Em r d W0 H0 al))) s s' → Sm (Ru (Rp Eq (Rp Eq (Em r d W0 H0 al))) (Rp Eq (Em r d W0 H0 al))) (f_X11_arrange_b147 i0 i2 s) (f_X11_arrange_b147 i0' i2 s') := by
  rintro ⟨y1, ⟨y3, hh⟩⟩ ⟨_, ⟨_, hh'⟩⟩ ⟨rfl, ⟨rfl, ghh⟩⟩
  dsimp only [f_X11_arrange_b147]
  refine Sm.i ?_ ?_
  · exact Sm.s (Ru.r (Rp.i rfl ghh))
  · refine Sm.b (Sm.gr ghh gi0) ?_
    rintro k35 k35' gk35
    refine Sm.b (Sm.is ghh gi0) ?_
    intro _ _ _
    refine Sm.b (y_X11_childAt gi0 ghh) ?_
    rintro v36 _ rfl
    refine Sm.b (Sm.si ghh gk35) ?_
    rintro w38 w38' gw38
    refine Sm.l ?_
    refine Sm.l ?_
    exact Sm.s (Ru.l (Rp.i rfl (Rp.i rfl gw38)))
set_option maxHeartbeats 2000000 in
theorem y_X11_arrange_b35 {i0 i0' : Nat} (gi0 : (Rr r d) i0 i0') : ∀ s s', (Rp Eq (Em r d W0 H0 al)) s s' → Sm (Ru (Rp Eq (Em r d W0 H0 al)) (Em r d W0 H0 al)) (f_X11_arrange_b35 i0 s) (f_X11_arrange_b35 i0' s') := by
  rintro ⟨y1, hh⟩ ⟨_, hh'⟩ ⟨rfl, ghh⟩
  dsimp only [f_X11_arrange_b35]
  refine Sm.i ?_ ?_
  · exact Sm.s (Ru.r ghh)
  · refine Sm.l ?_
    refine Sm.b (Sm.gr ghh gi0) ?_
    rintro k9 k9' gk9
    refine Sm.b (Sm.ai ghh gk9) ?_
    rintro x10 _ rfl
    refine Sm.b (Sm.gr ghh gi0) ?_
    rintro k11 k11' gk11
    refine Sm.b (Sm.gi ghh gi0) ?_
    rintro x12 _ rfl
    refine Sm.b (Sm.si ghh gk11) ?_
    rintro w13 w13' gw13
    refine Sm.b (Sm.gr gw13 gi0) ?_
    rintro k14 k14' gk14
    refine Sm.b (Sm.gi gw13 gi0) ?_
    rintro x15 _ rfl
    refine Sm.b (Sm.si gw13 gk14) ?_
    rintro w16 w16' gw16
    refine Sm.b (Sm.gi gw16 gi0) ?_
    rintro x17 _ rfl
    refine Sm.b (Sm.pf gw16 gi0 (okV_i _)) ?_
    rintro w18 w18' gw18
    refine Sm.b (Sm.w (y_X11_arrange_b81 gi0) tq_N (Rp.i rfl gw18)) ?_
    rintro o31 o31' go31
    refine Sm.b (Sm.is go31 gi0) ?_
    intro _ _ _
    refine Sm.b (y_X11_childCount gi0 go31) ?_
    rintro v32 _ rfl
    refine Sm.l ?_
    refine Sm.b (Sm.w (y_X11_arrange_b147 gi0) tq_N (Rp.i rfl (Rp.i rfl go31))) ?_
    rintro ⟨o41a, o41b⟩ ⟨_, o41b'⟩ ⟨rfl, go41b⟩
    exact Sm.s (Ru.l (Rp.i rfl go41b))
set_option maxHeartbeats 2000000 in
theorem y_X11_arrange {t t' : Nat} {h h' : tq_H} (gt : (Rr r d) t t') (gh : (Em r d W0 H0 al) h h') : Sm (Em r d W0 H0 al) (f_X11_arrange t h) (f_X11_arrange t' h') := by
  unfold f_X11_arrange
  refine Sm.b (Sm.pf gh gt (okV_i _)) ?_
  rintro w1 w1' gw1
  refine Sm.b (Sm.gr gw1 gt) ?_
  rintro k2 k2' gk2
  refine Sm.b (Sm.si gw1 gk2) ?_
  rintro w3 w3' gw3
  refine Sm.b (Sm.w (y_X11_arrange_b16 gt) tq_N (Rp.i rfl gw3)) ?_
  rintro o7 o7' go7
  refine Sm.b (Sm.w (y_X11_arrange_b35 gt) tq_N (Rp.i rfl go7)) ?_
  rintro o42 o42' go42
  exact Sm.s go42
set_option maxHeartbeats 2000000 in
theorem y_X11_init_b456 {i0 i0' : Nat} (gi0 : (Rr r d) i0 i0') : ∀ s s', (Rp Eq (Em r d W0 H0 al)) s s' → Sm (Ru (Rp Eq (Em r d W0 H0 al)) (Em r d W0 H0 al)) (f_X11_init_b456 i0 s) (f_X11_init_b456 i0' s') := by
  rintro ⟨y1, hh⟩ ⟨_, hh'⟩ ⟨rfl, ghh⟩
  dsimp only [f_X11_init_b456]
  refine Sm.i ?_ ?_
  · exact Sm.s (Ru.r ghh)
  · refine Sm.b (Sm.gr ghh gi0) ?_
    rintro k112 k112' gk112
    refine Sm.b (Sm.si ghh gk112) ?_
    rintro w113 w113' gw113
    refine Sm.b (Sm.gr gw113 gi0) ?_
    rintro k114 k114' gk114
    refine Sm.b (Sm.si gw113 gk114) ?_
    rintro w115 w115' gw115
    refine Sm.l ?_
    exact Sm.s (Ru.l (Rp.i rfl gw115))
set_option maxHeartbeats 2000000 in
theorem y_X11_init {t t' : Nat} {h h' : tq_H} (ha : al) (gt : (Rr r d) t t') (gh : (Em r d W0 H0 al) h h') : Sm (Em r d W0 H0 al) (f_X11_init t h) (f_X11_init t' h') := by
  unfold f_X11_init
  refine Sm.n ha gh okO_i (fun w1 w1' gw1 => ?_)
  refine Sm.b (Sm.pf gw1 gt (okV_r (gh.nr ha))) ?_
  rintro w2 w2' gw2
  refine Sm.n ha gw2 okO_i (fun w3 w3' gw3 => ?_)
  refine Sm.b (Sm.pf gw3 gt (okV_r (gw2.nr ha))) ?_
  rintro w4 w4' gw4
  refine Sm.n ha gw4 okO_i (fun w5 w5' gw5 => ?_)
  refine Sm.b (Sm.pf gw5 gt (okV_r (gw4.nr ha))) ?_
  rintro w6 w6' gw6
  refine Sm.n ha gw6 okO_i (fun w7 w7' gw7 => ?_)
  refine Sm.b (Sm.pf gw7 gt (okV_r (gw6.nr ha))) ?_
  rintro w8 w8' gw8
  refine Sm.n ha gw8 okO_i (fun w9 w9' gw9 => ?_)
  refine Sm.b (Sm.pf gw9 gt (okV_r (gw8.nr ha))) ?_
  rintro w10 w10' gw10
  refine Sm.n ha gw10 okO_i (fun w11 w11' gw11 => ?_)
  refine Sm.b (Sm.pf gw11 gt (okV_r (gw10.nr ha))) ?_
  rintro w12 w12' gw12
  refine Sm.n ha gw12 okO_i (fun w13 w13' gw13 => ?_)
  refine Sm.b (Sm.pf gw13 gt (okV_r (gw12.nr ha))) ?_
  rintro w14 w14' gw14
  refine Sm.n ha gw14 okO_i (fun w15 w15' gw15 => ?_)
  refine Sm.b (Sm.pf gw15 gt (okV_r (gw14.nr ha))) ?_
  rintro w16 w16' gw16
  refine Sm.n ha gw16 okO_i (fun w17 w17' gw17 => ?_)
  refine Sm.b (Sm.pf gw17 gt (okV_r (gw16.nr ha))) ?_
  rintro w18 w18' gw18
  refine Sm.n ha gw18 okO_i (fun w19 w19' gw19 => ?_)
  refine Sm.b (Sm.pf gw19 gt (okV_r (gw18.nr ha))) ?_
  rintro w20 w20' gw20
  refine Sm.n ha gw20 okO_i (fun w21 w21' gw21 => ?_)
  refine Sm.b (Sm.pf gw21 gt (okV_r (gw20.nr ha))) ?_
  rintro w22 w22' gw22
  refine Sm.n ha gw22 okO_i (fun w23 w23' gw23 => ?_)
  refine Sm.b (Sm.pf gw23 gt (okV_r (gw22.nr ha))) ?_
  rintro w24 w24' gw24
  refine Sm.n ha gw24 okO_i (fun w25 w25' gw25 => ?_)
  refine Sm.b (Sm.pf gw25 gt (okV_r (gw24.nr ha))) ?_
  rintro w26 w26' gw26
  refine Sm.n ha gw26 okO_i (fun w27 w27' gw27 => ?_)
  refine Sm.b (Sm.pf gw27 gt (okV_r (gw26.nr ha))) ?_
  rintro w28 w28' gw28
  refine Sm.n ha gw28 okO_i (fun w29 w29' gw29 => ?_)
  refine Sm.b (Sm.pf gw29 gt (okV_r (gw28.nr ha))) ?_
  rintro w30 w30' gw30
  refine Sm.n ha gw30 okO_i (fun w31 w31' gw31 => ?_)
  refine Sm.b (Sm.pf gw31 gt (okV_r (gw30.nr ha))) ?_
  rintro w32 w32' gw32
  refine Sm.n ha gw32 okO_i (fun w33 w33' gw33 => ?_)
  refine Sm.b (Sm.pf gw33 gt (okV_r (gw32.nr ha))) ?_
  rintro w34 w34' gw34
  refine Sm.n ha gw34 okO_i (fun w35 w35' gw35 => ?_)
  refine Sm.b (Sm.pf gw35 gt (okV_r (gw34.nr ha))) ?_
  rintro w36 w36' gw36
  refine Sm.n ha gw36 okO_i (fun w37 w37' gw37 => ?_)
  refine Sm.b (Sm.pf gw37 gt (okV_r (gw36.nr ha))) ?_
  rintro w38 w38' gw38
  refine Sm.n ha gw38 okO_i (fun w39 w39' gw39 => ?_)
  refine Sm.b (Sm.pf gw39 gt (okV_r (gw38.nr ha))) ?_
  rintro w40 w40' gw40
  refine Sm.n ha gw40 okO_i (fun w41 w41' gw41 => ?_)
  refine Sm.b (Sm.pf gw41 gt (okV_r (gw40.nr ha))) ?_
  rintro w42 w42' gw42
  refine Sm.n ha gw42 okO_i (fun w43 w43' gw43 => ?_)
  refine Sm.b (Sm.pf gw43 gt (okV_r (gw42.nr ha))) ?_
  rintro w44 w44' gw44
  refine Sm.n ha gw44 okO_i (fun w45 w45' gw45 => ?_)
  refine Sm.b (Sm.pf gw45 gt (okV_r (gw44.nr ha))) ?_
  rintro w46 w46' gw46
  refine Sm.n ha gw46 okO_j (fun w47 w47' gw47 => ?_)
  refine Sm.b (Sm.pf gw47 gt (okV_r (gw46.nr ha))) ?_
  rintro w48 w48' gw48
  refine Sm.n ha gw48 okO_j (fun w49 w49' gw49 => ?_)
  refine Sm.b (Sm.pf gw49 gt (okV_r (gw48.nr ha))) ?_
  rintro w50 w50' gw50
  refine Sm.n ha gw50 okO_i (fun w51 w51' gw51 => ?_)
  refine Sm.b (Sm.pf gw51 gt (okV_r (gw50.nr ha))) ?_
  rintro w52 w52' gw52
  refine Sm.n ha gw52 okO_i (fun w53 w53' gw53 => ?_)
  refine Sm.b (Sm.pf gw53 gt (okV_r (gw52.nr ha))) ?_
  rintro w54 w54' gw54
  refine Sm.n ha gw54 okO_i (fun w55 w55' gw55 => ?_)
  refine Sm.b (Sm.pf gw55 gt (okV_r (gw54.nr ha))) ?_
  rintro w56 w56' gw56
  refine Sm.n ha gw56 okO_i (fun w57 w57' gw57 => ?_)
  refine Sm.b (Sm.pf gw57 gt (okV_r (gw56.nr ha))) ?_
  rintro w58 w58' gw58
  refine Sm.n ha gw58 okO_i (fun w59 w59' gw59 => ?_)
  refine Sm.b (Sm.pf gw59 gt (okV_r (gw58.nr ha))) ?_
  rintro w60 w60' gw60
  refine Sm.n ha gw60 okO_i (fun w61 w61' gw61 => ?_)
  refine Sm.b (Sm.pf gw61 gt (okV_r (gw60.nr ha))) ?_
  rintro w62 w62' gw62
  refine Sm.n ha gw62 okO_i (fun w63 w63' gw63 => ?_)
  refine Sm.b (Sm.pf gw63 gt (okV_r (gw62.nr ha))) ?_
  rintro w64 w64' gw64
  refine Sm.n ha gw64 okO_i (fun w65 w65' gw65 => ?_)
  refine Sm.b (Sm.pf gw65 gt (okV_r (gw64.nr ha))) ?_
  rintro w66 w66' gw66
  refine Sm.n ha gw66 okO_i (fun w67 w67' gw67 => ?_)
  refine Sm.b (Sm.pf gw67 gt (okV_r (gw66.nr ha))) ?_
  rintro w68 w68' gw68
  refine Sm.n ha gw68 okO_i (fun w69 w69' gw69 => ?_)
  refine Sm.b (Sm.pf gw69 gt (okV_r (gw68.nr ha))) ?_
  rintro w70 w70' gw70
  refine Sm.n ha gw70 okO_i (fun w71 w71' gw71 => ?_)
  refine Sm.b (Sm.pf gw71 gt (okV_r (gw70.nr ha))) ?_
  rintro w72 w72' gw72
  refine Sm.n ha gw72 okO_i (fun w73 w73' gw73 => ?_)
  refine Sm.b (Sm.pf gw73 gt (okV_r (gw72.nr ha))) ?_
  rintro w74 w74' gw74
  refine Sm.n ha gw74 okO_j (fun w75 w75' gw75 => ?_)
  refine Sm.b (Sm.pf gw75 gt (okV_r (gw74.nr ha))) ?_
  rintro w76 w76' gw76
  refine Sm.n ha gw76 okO_i (fun w77 w77' gw77 => ?_)
  refine Sm.b (Sm.pf gw77 gt (okV_r (gw76.nr ha))) ?_
  rintro w78 w78' gw78
  refine Sm.n ha gw78 okO_i (fun w79 w79' gw79 => ?_)
  refine Sm.b (Sm.pf gw79 gt (okV_r (gw78.nr ha))) ?_
  rintro w80 w80' gw80
  refine Sm.n ha gw80 okO_i (fun w81 w81' gw81 => ?_)
  refine Sm.b (Sm.pf gw81 gt (okV_r (gw80.nr ha))) ?_
  rintro w82 w82' gw82
  refine Sm.n ha gw82 okO_i (fun w83 w83' gw83 => ?_)
  refine Sm.b (Sm.pf gw83 gt (okV_r (gw82.nr ha))) ?_
  rintro w84 w84' gw84
  refine Sm.n ha gw84 okO_i (fun w85 w85' gw85 => ?_)
  refine Sm.b (Sm.pf gw85 gt (okV_r (gw84.nr ha))) ?_
  rintro w86 w86' gw86
  refine Sm.n ha gw86 okO_i (fun w87 w87' gw87 => ?_)
  refine Sm.b (Sm.pf gw87 gt (okV_r (gw86.nr ha))) ?_
  rintro w88 w88' gw88
  refine Sm.n ha gw88 okO_i (fun w89 w89' gw89 => ?_)
  refine Sm.b (Sm.pf gw89 gt (okV_r (gw88.nr ha))) ?_
  rintro w90 w90' gw90
  refine Sm.n ha gw90 okO_i (fun w91 w91' gw91 => ?_)
  refine Sm.b (Sm.pf gw91 gt (okV_r (gw90.nr ha))) ?_
  rintro w92 w92' gw92
  refine Sm.n ha gw92 okO_i (fun w93 w93' gw93 => ?_)
  refine Sm.b (Sm.pf gw93 gt (okV_r (gw92.nr ha))) ?_
  rintro w94 w94' gw94
  refine Sm.n ha gw94 okO_i (fun w95 w95' gw95 => ?_)
  refine Sm.b (Sm.pf gw95 gt (okV_r (gw94.nr ha))) ?_
  rintro w96 w96' gw96
  refine Sm.n ha gw96 okO_i (fun w97 w97' gw97 => ?_)
  refine Sm.b (Sm.pf gw97 gt (okV_r (gw96.nr ha))) ?_
  rintro w98 w98' gw98
  refine Sm.b (Sm.pf gw98 gt (okV_i _)) ?_
  rintro w99 w99' gw99
  refine Sm.b (Sm.gr gw99 gt) ?_
  rintro k100 k100' gk100
  refine Sm.b (Sm.sz gw99 gk100) ?_
  rintro w101 w101' gw101
  refine Sm.b (Sm.gr gw101 gt) ?_
  rintro k102 k102' gk102
  refine Sm.b (Sm.si gw101 gk102) ?_
  rintro w103 w103' gw103
  refine Sm.b (Sm.gr gw103 gt) ?_
  rintro k104 k104' gk104
  refine Sm.b (Sm.si gw103 gk104) ?_
  rintro w105 w105' gw105
  refine Sm.b (Sm.gr gw105 gt) ?_
  rintro k106 k106' gk106
  refine Sm.b (Sm.si gw105 gk106) ?_
  rintro w107 w107' gw107
  refine Sm.b (Sm.gr gw107 gt) ?_
  rintro k108 k108' gk108
  refine Sm.b (Sm.si gw107 gk108) ?_
  rintro w109 w109' gw109
  refine Sm.b (Sm.gr gw109 gt) ?_
  rintro k110 k110' gk110
  refine Sm.b (Sm.si gw109 gk110) ?_
  rintro w111 w111' gw111
  refine Sm.b (Sm.w (y_X11_init_b456 gt) tq_N (Rp.i rfl gw111)) ?_
  rintro o117 o117' go117
  refine Sm.b (Sm.is go117 gt) ?_
  intro _ _ _
  refine Sm.b (y_X11_arrange gt go117) ?_
  rintro v118 v118' gv118
  exact Sm.s gv118
set_option maxHeartbeats 2000000 in
theorem y_X11_thrown {t t' : Nat} {h h' : tq_H} (gt : (Rr r d) t t') (gh : (Em r d W0 H0 al) h h') : Sm Eq (f_X11_thrown t h) (f_X11_thrown t' h') := by
  unfold f_X11_thrown
  refine Sm.b (Sm.gi gh gt) ?_
  rintro x1 _ rfl
  exact Sm.s rfl
set_option maxHeartbeats 2000000 in
theorem y_X11_refused {t t' : Nat} {a1 : Int32} {h h' : tq_H} (gt : (Rr r d) t t') (gh : (Em r d W0 H0 al) h h') : Sm (Rp Eq (Em r d W0 H0 al)) (f_X11_refused t a1 h) (f_X11_refused t' a1 h') := by
  unfold f_X11_refused
  refine Sm.b (Sm.pf gh gt (okV_i _)) ?_
  rintro w1 w1' gw1
  refine Sm.l ?_
  refine Sm.b (Sm.r) ?_
  rintro z3 _ rfl
  exact Sm.s (Rp.i rfl gw1)
set_option maxHeartbeats 2000000 in
theorem y_X11_fine {t t' : Nat} {a1 : Int32} {h h' : tq_H} (gt : (Rr r d) t t') (gh : (Em r d W0 H0 al) h h') : Sm (Rp Eq (Em r d W0 H0 al)) (f_X11_fine t a1 h) (f_X11_fine t' a1 h') := by
  unfold f_X11_fine
  refine Sm.b (Sm.pf gh gt (okV_i _)) ?_
  rintro w1 w1' gw1
  exact Sm.s (Rp.i rfl gw1)
set_option maxHeartbeats 2000000 in
theorem y_X11_in {a0 : Int32} {a1 : Int32} {a2 : Int32} {h h' : tq_H} (gh : (Em r d W0 H0 al) h h') : Sm Eq (f_X11_in a0 a1 a2 h) (f_X11_in a0 a1 a2 h') := by
  unfold f_X11_in
  refine Sm.l ?_
  refine Sm.b (Sm.r) ?_
  rintro z2 _ rfl
  exact Sm.s rfl
set_option maxHeartbeats 2000000 in
theorem y_X11_isNode {t t' : Nat} {a1 : Int32} {h h' : tq_H} (gt : (Rr r d) t t') (gh : (Em r d W0 H0 al) h h') : Sm Eq (f_X11_isNode t a1 h) (f_X11_isNode t' a1 h') := by
  unfold f_X11_isNode
  refine Sm.b (Sm.gi gh gt) ?_
  rintro x1 _ rfl
  refine Sm.b (y_X11_in gh) ?_
  rintro v2 _ rfl
  refine Sm.b (R := Eq) ?_ ?_
  · refine Sm.i ?_ ?_
    · exact Sm.s rfl
    · refine Sm.b (Sm.gr gh gt) ?_
      rintro k3 k3' gk3
      refine Sm.b (Sm.az gh gk3) ?_
      rintro x4 _ rfl
      refine Sm.i ?_ ?_
      · exact Sm.s rfl
      · exact Sm.s rfl
  · rintro p5 _ rfl
    refine Sm.b (Sm.r) ?_
    rintro z6 _ rfl
    exact Sm.s rfl
set_option maxHeartbeats 2000000 in
theorem y_X11_isBelow_b7 {i0 i0' : Nat} {i2 : Int32} {hh hh' : tq_H} (gi0 : (Rr r d) i0 i0') (ghh : (Em r d W0 H0 al) hh hh') : ∀ s s', Eq s s' → Sm (Ru Eq Eq) (f_X11_isBelow_b7 i0 i2 hh s) (f_X11_isBelow_b7 i0' i2 hh' s') := by
  rintro y3 _ rfl
  dsimp only [f_X11_isBelow_b7]
  refine Sm.i ?_ ?_
  · exact Sm.s (Ru.r rfl)
  · refine Sm.i ?_ ?_
    · exact Sm.s (Ru.r rfl)
    · refine Sm.b (Sm.gr ghh gi0) ?_
      rintro k3 k3' gk3
      refine Sm.b (Sm.ai ghh gk3) ?_
      rintro x4 _ rfl
      exact Sm.s (Ru.l rfl)
set_option maxHeartbeats 2000000 in
theorem y_X11_isBelow {t t' : Nat} {a1 : Int32} {a2 : Int32} {h h' : tq_H} (gt : (Rr r d) t t') (gh : (Em r d W0 H0 al) h h') : Sm Eq (f_X11_isBelow t a1 a2 h) (f_X11_isBelow t' a1 a2 h') := by
  unfold f_X11_isBelow
  refine Sm.b (Sm.gr gh gt) ?_
  rintro k1 k1' gk1
  refine Sm.b (Sm.ai gh gk1) ?_
  rintro x2 _ rfl
  refine Sm.b (Sm.w (y_X11_isBelow_b7 gt gh) tq_N rfl) ?_
  rintro o5 _ rfl
  refine Sm.l ?_
  refine Sm.b (Sm.r) ?_
  rintro z7 _ rfl
  exact Sm.s rfl
set_option maxHeartbeats 2000000 in
theorem y_X11_spaceOf_b2 {i0 i0' : Nat} {hh hh' : tq_H} (gi0 : (Rr r d) i0 i0') (ghh : (Em r d W0 H0 al) hh hh') : ∀ s s', Eq s s' → Sm (Ru Eq Eq) (f_X11_spaceOf_b2 i0 hh s) (f_X11_spaceOf_b2 i0' hh' s') := by
  rintro y2 _ rfl
  dsimp only [f_X11_spaceOf_b2]
  refine Sm.i ?_ ?_
  · exact Sm.s (Ru.r rfl)
  · refine Sm.b (Sm.gr ghh gi0) ?_
    rintro k1 k1' gk1
    refine Sm.b (Sm.ai ghh gk1) ?_
    rintro x2 _ rfl
    refine Sm.i ?_ ?_
    · refine Sm.b (Sm.gr ghh gi0) ?_
      rintro k3 k3' gk3
      refine Sm.b (Sm.ai ghh gk3) ?_
      rintro x4 _ rfl
      exact Sm.s (Ru.l rfl)
    · exact Sm.s (Ru.r rfl)
set_option maxHeartbeats 2000000 in
theorem y_X11_spaceOf {t t' : Nat} {a1 : Int32} {h h' : tq_H} (gt : (Rr r d) t t') (gh : (Em r d W0 H0 al) h h') : Sm Eq (f_X11_spaceOf t a1 h) (f_X11_spaceOf t' a1 h') := by
  unfold f_X11_spaceOf
  refine Sm.b (Sm.w (y_X11_spaceOf_b2 gt gh) tq_N rfl) ?_
  rintro o5 _ rfl
  refine Sm.b (R := Eq) ?_ ?_
  · refine Sm.i ?_ ?_
    · exact Sm.s rfl
    · refine Sm.b (Sm.gr gh gt) ?_
      rintro k6 k6' gk6
      refine Sm.b (Sm.ai gh gk6) ?_
      rintro x7 _ rfl
      exact Sm.s rfl
  · rintro p8 _ rfl
    exact Sm.s rfl
set_option maxHeartbeats 2000000 in
theorem y_X11_valueOf_b27 {i0 i0' : Nat} {i1 : Int32} {i2 : Int64} {hh hh' : tq_H} (gi0 : (Rr r d) i0 i0') (ghh : (Em r d W0 H0 al) hh hh') : ∀ s s', (Rp Eq Eq) s s' → Sm (Ru (Rp Eq Eq) Eq) (f_X11_valueOf_b27 i0 i1 i2 hh s) (f_X11_valueOf_b27 i0' i1 i2 hh' s') := by
  rintro ⟨y4, y5⟩ ⟨_, _⟩ ⟨rfl, rfl⟩
  dsimp only [f_X11_valueOf_b27]
  refine Sm.i ?_ ?_
  · exact Sm.s (Ru.r rfl)
  · refine Sm.b (Sm.gr ghh gi0) ?_
    rintro k5 k5' gk5
    refine Sm.b (Sm.ai ghh gk5) ?_
    rintro x6 _ rfl
    refine Sm.b (Sm.gr ghh gi0) ?_
    rintro k7 k7' gk7
    refine Sm.b (Sm.ai ghh gk7) ?_
    rintro x8 _ rfl
    refine Sm.b (R := Eq) ?_ ?_
    · refine Sm.i ?_ ?_
      · refine Sm.i ?_ ?_
        · refine Sm.b (Sm.is ghh gi0) ?_
          intro _ _ _
          refine Sm.b (y_X11_isBelow gi0 ghh) ?_
          rintro v9 _ rfl
          refine Sm.i ?_ ?_
          · exact Sm.s rfl
          · refine Sm.b (Sm.gr ghh gi0) ?_
            rintro k11 k11' gk11
            refine Sm.b (Sm.ai ghh gk11) ?_
            rintro x12 _ rfl
            exact Sm.s rfl
        · exact Sm.s rfl
      · exact Sm.s rfl
    · rintro p13 _ rfl
      refine Sm.l ?_
      exact Sm.s (Ru.l (Rp.i rfl rfl))
set_option maxHeartbeats 2000000 in
theorem y_X11_valueOf {t t' : Nat} {a1 : Int32} {a2 : Int64} {h h' : tq_H} (gt : (Rr r d) t t') (gh : (Em r d W0 H0 al) h h') : Sm Eq (f_X11_valueOf t a1 a2 h) (f_X11_valueOf t' a1 a2 h') := by
  unfold f_X11_valueOf
  refine Sm.b (Sm.gr gh gt) ?_
  rintro k1 k1' gk1
  refine Sm.b (Sm.ai gh gk1) ?_
  rintro x2 _ rfl
  refine Sm.i ?_ ?_
  · refine Sm.b (Sm.gi gh gt) ?_
    rintro x3 _ rfl
    refine Sm.l ?_
    refine Sm.b (Sm.w (y_X11_valueOf_b27 gt gh) tq_N (Rp.i rfl rfl)) ?_
    rintro o15 _ rfl
    exact Sm.s rfl
  · refine Sm.b (Sm.gr gh gt) ?_
    rintro k16 k16' gk16
    refine Sm.b (Sm.ai gh gk16) ?_
    rintro x17 _ rfl
    exact Sm.s rfl
set_option maxHeartbeats 2000000 in
theorem y_X11_all_b4 {i0 i0' : Nat} {hh hh' : tq_H} (gi0 : (Rr r d) i0 i0') (ghh : (Em r d W0 H0 al) hh hh') : ∀ s s', (Rp Eq Eq) s s' → Sm (Ru (Rp Eq Eq) Eq) (f_X11_all_b4 i0 hh s) (f_X11_all_b4 i0' hh' s') := by
  rintro ⟨y1, y3⟩ ⟨_, _⟩ ⟨rfl, rfl⟩
  dsimp only [f_X11_all_b4]
  refine Sm.b (Sm.gi ghh gi0) ?_
  rintro x1 _ rfl
  refine Sm.i ?_ ?_
  · exact Sm.s (Ru.r rfl)
  · refine Sm.b (Sm.gr ghh gi0) ?_
    rintro k2 k2' gk2
    refine Sm.b (Sm.ai ghh gk2) ?_
    rintro x3 _ rfl
    refine Sm.l ?_
    refine Sm.l ?_
    exact Sm.s (Ru.l (Rp.i rfl rfl))
set_option maxHeartbeats 2000000 in
theorem y_X11_all {t t' : Nat} {h h' : tq_H} (gt : (Rr r d) t t') (gh : (Em r d W0 H0 al) h h') : Sm Eq (f_X11_all t h) (f_X11_all t' h') := by
  unfold f_X11_all
  refine Sm.b (Sm.w (y_X11_all_b4 gt gh) tq_N (Rp.i rfl rfl)) ?_
  rintro o6 _ rfl
  exact Sm.s rfl
set_option maxHeartbeats 2000000 in
theorem y_X11_collect {t t' : Nat} {a1 : Int32} {a2 : Int32} {a3 : Int32} {a4 : Int32} {a5 : Int32} {a6 : Int32} {a7 : Int32} {h h' : tq_H} (gt : (Rr r d) t t') (gh : (Em r d W0 H0 al) h h') : Sm (Rp Eq (Em r d W0 H0 al)) (f_X11_collect t a1 a2 a3 a4 a5 a6 a7 h) (f_X11_collect t' a1 a2 a3 a4 a5 a6 a7 h') := by
  unfold f_X11_collect
  refine Sm.b (Sm.gi gh gt) ?_
  rintro x1 _ rfl
  refine Sm.l ?_
  refine Sm.b (Sm.gr gh gt) ?_
  rintro k3 k3' gk3
  refine Sm.b (Sm.si gh gk3) ?_
  rintro w4 w4' gw4
  refine Sm.b (Sm.gr gw4 gt) ?_
  rintro k5 k5' gk5
  refine Sm.b (Sm.si gw4 gk5) ?_
  rintro w6 w6' gw6
  refine Sm.b (Sm.gr gw6 gt) ?_
  rintro k7 k7' gk7
  refine Sm.b (Sm.si gw6 gk7) ?_
  rintro w8 w8' gw8
  refine Sm.b (Sm.gr gw8 gt) ?_
  rintro k9 k9' gk9
  refine Sm.b (Sm.si gw8 gk9) ?_
  rintro w10 w10' gw10
  refine Sm.b (Sm.gr gw10 gt) ?_
  rintro k11 k11' gk11
  refine Sm.b (Sm.si gw10 gk11) ?_
  rintro w12 w12' gw12
  refine Sm.b (Sm.gr gw12 gt) ?_
  rintro k13 k13' gk13
  refine Sm.b (Sm.si gw12 gk13) ?_
  rintro w14 w14' gw14
  refine Sm.b (Sm.gr gw14 gt) ?_
  rintro k15 k15' gk15
  refine Sm.b (Sm.si gw14 gk15) ?_
  rintro w16 w16' gw16
  refine Sm.b (Sm.gi gw16 gt) ?_
  rintro x17 _ rfl
  refine Sm.b (Sm.pf gw16 gt (okV_i _)) ?_
  rintro w18 w18' gw18
  refine Sm.b (Sm.gi gw18 gt) ?_
  rintro x19 _ rfl
  exact Sm.s (Rp.i rfl gw18)
set_option maxHeartbeats 2000000 in
theorem y_X11_isSpot {t t' : Nat} {a1 : Int32} {a2 : Int32} {h h' : tq_H} (gt : (Rr r d) t t') (gh : (Em r d W0 H0 al) h h') : Sm Eq (f_X11_isSpot t a1 a2 h) (f_X11_isSpot t' a1 a2 h') := by
  unfold f_X11_isSpot
  refine Sm.b (Sm.is gh gt) ?_
  intro _ _ _
  refine Sm.b (y_X11_isNode gt gh) ?_
  rintro v1 _ rfl
  refine Sm.b (R := Eq) ?_ ?_
  · refine Sm.i ?_ ?_
    · exact Sm.s rfl
    · refine Sm.b (Sm.gr gh gt) ?_
      rintro k3 k3' gk3
      refine Sm.b (Sm.ai gh gk3) ?_
      rintro x4 _ rfl
      refine Sm.b (R := Eq) ?_ ?_
      · refine Sm.i ?_ ?_
        · refine Sm.b (Sm.is gh gt) ?_
          intro _ _ _
          refine Sm.b (y_X11_childCount gt gh) ?_
          rintro v5 _ rfl
          exact Sm.s rfl
        · exact Sm.s rfl
      · rintro p7 _ rfl
        refine Sm.b (y_X11_in gh) ?_
        rintro v8 _ rfl
        refine Sm.i ?_ ?_
        · exact Sm.s rfl
        · exact Sm.s rfl
  · rintro p9 _ rfl
    refine Sm.b (Sm.r) ?_
    rintro z10 _ rfl
    exact Sm.s rfl
set_option maxHeartbeats 2000000 in
theorem y_X11_takes {t t' : Nat} {a1 : Int32} {h h' : tq_H} (gt : (Rr r d) t t') (gh : (Em r d W0 H0 al) h h') : Sm Eq (f_X11_takes t a1 h) (f_X11_takes t' a1 h') := by
  unfold f_X11_takes
  refine Sm.b (Sm.gr gh gt) ?_
  rintro k1 k1' gk1
  refine Sm.b (Sm.ai gh gk1) ?_
  rintro x2 _ rfl
  refine Sm.b (R := Eq) ?_ ?_
  · refine Sm.i ?_ ?_
    · refine Sm.b (Sm.gi gh gt) ?_
      rintro x3 _ rfl
      refine Sm.i ?_ ?_
      · exact Sm.s rfl
      · exact Sm.s rfl
    · exact Sm.s rfl
  · rintro p4 _ rfl
    refine Sm.b (Sm.r) ?_
    rintro z5 _ rfl
    exact Sm.s rfl
set_option maxHeartbeats 2000000 in
theorem y_X11_insertElement {t t' : Nat} {a1 : Int32} {a2 : Int32} {a3 : Int32} {h h' : tq_H} (gt : (Rr r d) t t') (gh : (Em r d W0 H0 al) h h') : Sm (Rp Eq (Em r d W0 H0 al)) (f_X11_insertElement t a1 a2 a3 h) (f_X11_insertElement t' a1 a2 a3 h') := by
  unfold f_X11_insertElement
  refine Sm.b (Sm.is gh gt) ?_
  intro _ _ _
  refine Sm.b (y_X11_isSpot gt gh) ?_
  rintro v1 _ rfl
  refine Sm.b (R := Eq) ?_ ?_
  · refine Sm.i ?_ ?_
    · exact Sm.s rfl
    · refine Sm.b (y_X11_in gh) ?_
      rintro v3 _ rfl
      refine Sm.i ?_ ?_
      · exact Sm.s rfl
      · refine Sm.b (Sm.is gh gt) ?_
        intro _ _ _
        refine Sm.b (y_X11_takes gt gh) ?_
        rintro v4 _ rfl
        refine Sm.i ?_ ?_
        · exact Sm.s rfl
        · exact Sm.s rfl
  · rintro p6 _ rfl
    refine Sm.b (Sm.is gh gt) ?_
    intro _ _ _
    refine Sm.b (y_X11_refused gt gh) ?_
    rintro ⟨v7a, v7b⟩ ⟨_, v7b'⟩ ⟨rfl, gv7b⟩
    refine Sm.i ?_ ?_
    · refine Sm.b (Sm.is gv7b gt) ?_
      intro _ _ _
      refine Sm.b (y_X11_collect gt gv7b) ?_
      rintro ⟨v9a, v9b⟩ ⟨_, v9b'⟩ ⟨rfl, gv9b⟩
      exact Sm.s (Rp.i rfl gv9b)
    · exact Sm.s (Rp.i rfl gv7b)
set_option maxHeartbeats 2000000 in
theorem y_X11_insertText {t t' : Nat} {a1 : Int32} {a2 : Int32} {a3 : Int32} {h h' : tq_H} (gt : (Rr r d) t t') (gh : (Em r d W0 H0 al) h h') : Sm (Rp Eq (Em r d W0 H0 al)) (f_X11_insertText t a1 a2 a3 h) (f_X11_insertText t' a1 a2 a3 h') := by
  unfold f_X11_insertText
  refine Sm.b (Sm.is gh gt) ?_
  intro _ _ _
  refine Sm.b (y_X11_isSpot gt gh) ?_
  rintro v1 _ rfl
  refine Sm.b (R := Eq) ?_ ?_
  · refine Sm.i ?_ ?_
    · exact Sm.s rfl
    · refine Sm.b (y_X11_in gh) ?_
      rintro v3 _ rfl
      refine Sm.i ?_ ?_
      · exact Sm.s rfl
      · refine Sm.b (Sm.is gh gt) ?_
        intro _ _ _
        refine Sm.b (y_X11_takes gt gh) ?_
        rintro v4 _ rfl
        refine Sm.i ?_ ?_
        · exact Sm.s rfl
        · exact Sm.s rfl
  · rintro p6 _ rfl
    refine Sm.b (Sm.is gh gt) ?_
    intro _ _ _
    refine Sm.b (y_X11_refused gt gh) ?_
    rintro ⟨v7a, v7b⟩ ⟨_, v7b'⟩ ⟨rfl, gv7b⟩
    refine Sm.i ?_ ?_
    · refine Sm.b (Sm.is gv7b gt) ?_
      intro _ _ _
      refine Sm.b (y_X11_collect gt gv7b) ?_
      rintro ⟨v9a, v9b⟩ ⟨_, v9b'⟩ ⟨rfl, gv9b⟩
      exact Sm.s (Rp.i rfl gv9b)
    · exact Sm.s (Rp.i rfl gv7b)
set_option maxHeartbeats 2000000 in
theorem y_X11_insertAttribute {t t' : Nat} {a1 : Int32} {a2 : Int32} {a3 : Int32} {h h' : tq_H} (gt : (Rr r d) t t') (gh : (Em r d W0 H0 al) h h') : Sm (Rp Eq (Em r d W0 H0 al)) (f_X11_insertAttribute t a1 a2 a3 h) (f_X11_insertAttribute t' a1 a2 a3 h') := by
  unfold f_X11_insertAttribute
  refine Sm.b (y_X11_in gh) ?_
  rintro v1 _ rfl
  refine Sm.b (R := Eq) ?_ ?_
  · refine Sm.i ?_ ?_
    · exact Sm.s rfl
    · refine Sm.b (y_X11_in gh) ?_
      rintro v2 _ rfl
      refine Sm.i ?_ ?_
      · exact Sm.s rfl
      · exact Sm.s rfl
  · rintro p3 _ rfl
    refine Sm.b (Sm.is gh gt) ?_
    intro _ _ _
    refine Sm.b (y_X11_isNode gt gh) ?_
    rintro v4 _ rfl
    refine Sm.b (R := Eq) ?_ ?_
    · refine Sm.i ?_ ?_
      · exact Sm.s rfl
      · refine Sm.i ?_ ?_
        · exact Sm.s rfl
        · refine Sm.b (Sm.is gh gt) ?_
          intro _ _ _
          refine Sm.b (y_X11_takes gt gh) ?_
          rintro v6 _ rfl
          refine Sm.i ?_ ?_
          · exact Sm.s rfl
          · exact Sm.s rfl
    · rintro p8 _ rfl
      refine Sm.b (Sm.is gh gt) ?_
      intro _ _ _
      refine Sm.b (y_X11_refused gt gh) ?_
      rintro ⟨v9a, v9b⟩ ⟨_, v9b'⟩ ⟨rfl, gv9b⟩
      refine Sm.i ?_ ?_
      · refine Sm.b (Sm.is gv9b gt) ?_
        intro _ _ _
        refine Sm.b (y_X11_collect gt gv9b) ?_
        rintro ⟨v11a, v11b⟩ ⟨_, v11b'⟩ ⟨rfl, gv11b⟩
        exact Sm.s (Rp.i rfl gv11b)
      · exact Sm.s (Rp.i rfl gv9b)
set_option maxHeartbeats 2000000 in
theorem y_X11_remove {t t' : Nat} {a1 : Int32} {h h' : tq_H} (gt : (Rr r d) t t') (gh : (Em r d W0 H0 al) h h') : Sm (Rp Eq (Em r d W0 H0 al)) (f_X11_remove t a1 h) (f_X11_remove t' a1 h') := by
  unfold f_X11_remove
  refine Sm.b (Sm.is gh gt) ?_
  intro _ _ _
  refine Sm.b (y_X11_isNode gt gh) ?_
  rintro v1 _ rfl
  refine Sm.b (R := Eq) ?_ ?_
  · refine Sm.i ?_ ?_
    · exact Sm.s rfl
    · refine Sm.i ?_ ?_
      · exact Sm.s rfl
      · refine Sm.b (Sm.gi gh gt) ?_
        rintro x3 _ rfl
        refine Sm.i ?_ ?_
        · exact Sm.s rfl
        · exact Sm.s rfl
  · rintro p4 _ rfl
    refine Sm.b (Sm.is gh gt) ?_
    intro _ _ _
    refine Sm.b (y_X11_refused gt gh) ?_
    rintro ⟨v5a, v5b⟩ ⟨_, v5b'⟩ ⟨rfl, gv5b⟩
    refine Sm.i ?_ ?_
    · refine Sm.b (Sm.is gv5b gt) ?_
      intro _ _ _
      refine Sm.b (y_X11_collect gt gv5b) ?_
      rintro ⟨v7a, v7b⟩ ⟨_, v7b'⟩ ⟨rfl, gv7b⟩
      exact Sm.s (Rp.i rfl gv7b)
    · exact Sm.s (Rp.i rfl gv5b)
set_option maxHeartbeats 2000000 in
theorem y_X11_rename {t t' : Nat} {a1 : Int32} {a2 : Int32} {h h' : tq_H} (gt : (Rr r d) t t') (gh : (Em r d W0 H0 al) h h') : Sm (Rp Eq (Em r d W0 H0 al)) (f_X11_rename t a1 a2 h) (f_X11_rename t' a1 a2 h') := by
  unfold f_X11_rename
  refine Sm.b (Sm.is gh gt) ?_
  intro _ _ _
  refine Sm.b (y_X11_isNode gt gh) ?_
  rintro v1 _ rfl
  refine Sm.b (R := Eq) ?_ ?_
  · refine Sm.i ?_ ?_
    · exact Sm.s rfl
    · refine Sm.b (y_X11_in gh) ?_
      rintro v3 _ rfl
      refine Sm.i ?_ ?_
      · exact Sm.s rfl
      · refine Sm.b (Sm.gr gh gt) ?_
        rintro k4 k4' gk4
        refine Sm.b (Sm.ai gh gk4) ?_
        rintro x5 _ rfl
        refine Sm.i ?_ ?_
        · exact Sm.s rfl
        · refine Sm.b (Sm.gi gh gt) ?_
          rintro x6 _ rfl
          refine Sm.i ?_ ?_
          · exact Sm.s rfl
          · exact Sm.s rfl
  · rintro p7 _ rfl
    refine Sm.b (Sm.is gh gt) ?_
    intro _ _ _
    refine Sm.b (y_X11_refused gt gh) ?_
    rintro ⟨v8a, v8b⟩ ⟨_, v8b'⟩ ⟨rfl, gv8b⟩
    refine Sm.i ?_ ?_
    · refine Sm.b (Sm.is gv8b gt) ?_
      intro _ _ _
      refine Sm.b (y_X11_collect gt gv8b) ?_
      rintro ⟨v10a, v10b⟩ ⟨_, v10b'⟩ ⟨rfl, gv10b⟩
      exact Sm.s (Rp.i rfl gv10b)
    · exact Sm.s (Rp.i rfl gv8b)
set_option maxHeartbeats 2000000 in
theorem y_X11_setValue {t t' : Nat} {a1 : Int32} {a2 : Int32} {h h' : tq_H} (gt : (Rr r d) t t') (gh : (Em r d W0 H0 al) h h') : Sm (Rp Eq (Em r d W0 H0 al)) (f_X11_setValue t a1 a2 h) (f_X11_setValue t' a1 a2 h') := by
  unfold f_X11_setValue
  refine Sm.b (Sm.is gh gt) ?_
  intro _ _ _
  refine Sm.b (y_X11_isNode gt gh) ?_
  rintro v1 _ rfl
  refine Sm.b (R := Eq) ?_ ?_
  · refine Sm.i ?_ ?_
    · exact Sm.s rfl
    · refine Sm.b (y_X11_in gh) ?_
      rintro v3 _ rfl
      refine Sm.i ?_ ?_
      · exact Sm.s rfl
      · refine Sm.b (Sm.gr gh gt) ?_
        rintro k4 k4' gk4
        refine Sm.b (Sm.ai gh gk4) ?_
        rintro x5 _ rfl
        refine Sm.i ?_ ?_
        · exact Sm.s rfl
        · refine Sm.b (Sm.gi gh gt) ?_
          rintro x6 _ rfl
          refine Sm.i ?_ ?_
          · exact Sm.s rfl
          · exact Sm.s rfl
  · rintro p7 _ rfl
    refine Sm.b (Sm.is gh gt) ?_
    intro _ _ _
    refine Sm.b (y_X11_refused gt gh) ?_
    rintro ⟨v8a, v8b⟩ ⟨_, v8b'⟩ ⟨rfl, gv8b⟩
    refine Sm.i ?_ ?_
    · refine Sm.b (Sm.is gv8b gt) ?_
      intro _ _ _
      refine Sm.b (y_X11_collect gt gv8b) ?_
      rintro ⟨v10a, v10b⟩ ⟨_, v10b'⟩ ⟨rfl, gv10b⟩
      exact Sm.s (Rp.i rfl gv10b)
    · exact Sm.s (Rp.i rfl gv8b)
set_option maxHeartbeats 2000000 in
theorem y_X11_move {t t' : Nat} {a1 : Int32} {a2 : Int32} {a3 : Int32} {h h' : tq_H} (gt : (Rr r d) t t') (gh : (Em r d W0 H0 al) h h') : Sm (Rp Eq (Em r d W0 H0 al)) (f_X11_move t a1 a2 a3 h) (f_X11_move t' a1 a2 a3 h') := by
  unfold f_X11_move
  refine Sm.b (Sm.is gh gt) ?_
  intro _ _ _
  refine Sm.b (y_X11_isNode gt gh) ?_
  rintro v1 _ rfl
  refine Sm.b (R := Eq) ?_ ?_
  · refine Sm.i ?_ ?_
    · exact Sm.s rfl
    · refine Sm.b (Sm.is gh gt) ?_
      intro _ _ _
      refine Sm.b (y_X11_isSpot gt gh) ?_
      rintro v3 _ rfl
      refine Sm.i ?_ ?_
      · exact Sm.s rfl
      · exact Sm.s rfl
  · rintro p5 _ rfl
    refine Sm.b (R := Eq) ?_ ?_
    · refine Sm.i ?_ ?_
      · exact Sm.s rfl
      · refine Sm.i ?_ ?_
        · exact Sm.s rfl
        · refine Sm.b (Sm.gr gh gt) ?_
          rintro k6 k6' gk6
          refine Sm.b (Sm.ai gh gk6) ?_
          rintro x7 _ rfl
          refine Sm.i ?_ ?_
          · exact Sm.s rfl
          · refine Sm.b (Sm.is gh gt) ?_
            intro _ _ _
            refine Sm.b (y_X11_takes gt gh) ?_
            rintro v8 _ rfl
            refine Sm.i ?_ ?_
            · exact Sm.s rfl
            · exact Sm.s rfl
    · rintro p10 _ rfl
      refine Sm.b (Sm.is gh gt) ?_
      intro _ _ _
      refine Sm.b (y_X11_refused gt gh) ?_
      rintro ⟨v11a, v11b⟩ ⟨_, v11b'⟩ ⟨rfl, gv11b⟩
      refine Sm.i ?_ ?_
      · refine Sm.b (Sm.is gv11b gt) ?_
        intro _ _ _
        refine Sm.b (y_X11_collect gt gv11b) ?_
        rintro ⟨v13a, v13b⟩ ⟨_, v13b'⟩ ⟨rfl, gv13b⟩
        exact Sm.s (Rp.i rfl gv13b)
      · exact Sm.s (Rp.i rfl gv11b)
set_option maxHeartbeats 2000000 in
theorem y_X11_declare {t t' : Nat} {a1 : Int32} {a2 : Int32} {h h' : tq_H} (gt : (Rr r d) t t') (gh : (Em r d W0 H0 al) h h') : Sm (Rp Eq (Em r d W0 H0 al)) (f_X11_declare t a1 a2 h) (f_X11_declare t' a1 a2 h') := by
  unfold f_X11_declare
  refine Sm.b (Sm.is gh gt) ?_
  intro _ _ _
  refine Sm.b (y_X11_isNode gt gh) ?_
  rintro v1 _ rfl
  refine Sm.b (R := Eq) ?_ ?_
  · refine Sm.i ?_ ?_
    · exact Sm.s rfl
    · refine Sm.b (y_X11_in gh) ?_
      rintro v3 _ rfl
      refine Sm.i ?_ ?_
      · exact Sm.s rfl
      · refine Sm.b (Sm.gr gh gt) ?_
        rintro k4 k4' gk4
        refine Sm.b (Sm.ai gh gk4) ?_
        rintro x5 _ rfl
        refine Sm.i ?_ ?_
        · refine Sm.b (Sm.gi gh gt) ?_
          rintro x6 _ rfl
          refine Sm.i ?_ ?_
          · exact Sm.s rfl
          · exact Sm.s rfl
        · exact Sm.s rfl
  · rintro p7 _ rfl
    refine Sm.b (Sm.is gh gt) ?_
    intro _ _ _
    refine Sm.b (y_X11_refused gt gh) ?_
    rintro ⟨v8a, v8b⟩ ⟨_, v8b'⟩ ⟨rfl, gv8b⟩
    refine Sm.i ?_ ?_
    · refine Sm.b (Sm.is gv8b gt) ?_
      intro _ _ _
      refine Sm.b (y_X11_collect gt gv8b) ?_
      rintro ⟨v10a, v10b⟩ ⟨_, v10b'⟩ ⟨rfl, gv10b⟩
      exact Sm.s (Rp.i rfl gv10b)
    · exact Sm.s (Rp.i rfl gv8b)
set_option maxHeartbeats 2000000 in
theorem y_X11_isAtOdds_b14 {i0 i0' : Nat} {i2 : Int32} {hh hh' : tq_H} (gi0 : (Rr r d) i0 i0') (ghh : (Em r d W0 H0 al) hh hh') : ∀ s s', (Rp Eq Eq) s s' → Sm (Ru (Rp Eq Eq) Eq) (f_X11_isAtOdds_b14 i0 i2 hh s) (f_X11_isAtOdds_b14 i0' i2 hh' s') := by
  rintro ⟨y1, y3⟩ ⟨_, _⟩ ⟨rfl, rfl⟩
  dsimp only [f_X11_isAtOdds_b14]
  refine Sm.b (Sm.gi ghh gi0) ?_
  rintro x2 _ rfl
  refine Sm.i ?_ ?_
  · exact Sm.s (Ru.r rfl)
  · refine Sm.b (R := Eq) ?_ ?_
    · refine Sm.i ?_ ?_
      · exact Sm.s rfl
      · refine Sm.b (Sm.gr ghh gi0) ?_
        rintro k3 k3' gk3
        refine Sm.b (Sm.ai ghh gk3) ?_
        rintro x4 _ rfl
        refine Sm.b (Sm.gr ghh gi0) ?_
        rintro k5 k5' gk5
        refine Sm.b (Sm.ai ghh gk5) ?_
        rintro x6 _ rfl
        refine Sm.i ?_ ?_
        · refine Sm.b (Sm.gr ghh gi0) ?_
          rintro k7 k7' gk7
          refine Sm.b (Sm.ai ghh gk7) ?_
          rintro x8 _ rfl
          refine Sm.i ?_ ?_
          · exact Sm.s rfl
          · exact Sm.s rfl
        · exact Sm.s rfl
    · rintro p9 _ rfl
      refine Sm.b (R := Eq) ?_ ?_
      · refine Sm.i ?_ ?_
        · refine Sm.i ?_ ?_
          · refine Sm.i ?_ ?_
            · exact Sm.s rfl
            · refine Sm.b (Sm.gr ghh gi0) ?_
              rintro k10 k10' gk10
              refine Sm.b (Sm.ai ghh gk10) ?_
              rintro x11 _ rfl
              refine Sm.i ?_ ?_
              · refine Sm.b (Sm.gr ghh gi0) ?_
                rintro k12 k12' gk12
                refine Sm.b (Sm.ai ghh gk12) ?_
                rintro x13 _ rfl
                refine Sm.i ?_ ?_
                · exact Sm.s rfl
                · exact Sm.s rfl
              · exact Sm.s rfl
          · refine Sm.b (Sm.gr ghh gi0) ?_
            rintro k14 k14' gk14
            refine Sm.b (Sm.ai ghh gk14) ?_
            rintro x15 _ rfl
            refine Sm.i ?_ ?_
            · refine Sm.i ?_ ?_
              · exact Sm.s rfl
              · refine Sm.b (Sm.gr ghh gi0) ?_
                rintro k16 k16' gk16
                refine Sm.b (Sm.ai ghh gk16) ?_
                rintro x17 _ rfl
                refine Sm.i ?_ ?_
                · refine Sm.b (Sm.gr ghh gi0) ?_
                  rintro k18 k18' gk18
                  refine Sm.b (Sm.ai ghh gk18) ?_
                  rintro x19 _ rfl
                  refine Sm.i ?_ ?_
                  · exact Sm.s rfl
                  · exact Sm.s rfl
                · exact Sm.s rfl
            · refine Sm.b (Sm.gr ghh gi0) ?_
              rintro k20 k20' gk20
              refine Sm.b (Sm.ai ghh gk20) ?_
              rintro x21 _ rfl
              refine Sm.b (Sm.gr ghh gi0) ?_
              rintro k22 k22' gk22
              refine Sm.b (Sm.ai ghh gk22) ?_
              rintro x23 _ rfl
              refine Sm.i ?_ ?_
              · exact Sm.s rfl
              · refine Sm.i ?_ ?_
                · exact Sm.s rfl
                · refine Sm.b (Sm.gr ghh gi0) ?_
                  rintro k24 k24' gk24
                  refine Sm.b (Sm.ai ghh gk24) ?_
                  rintro x25 _ rfl
                  refine Sm.i ?_ ?_
                  · refine Sm.b (Sm.gr ghh gi0) ?_
                    rintro k26 k26' gk26
                    refine Sm.b (Sm.ai ghh gk26) ?_
                    rintro x27 _ rfl
                    refine Sm.i ?_ ?_
                    · exact Sm.s rfl
                    · exact Sm.s rfl
                  · exact Sm.s rfl
        · exact Sm.s rfl
      · rintro p28 _ rfl
        refine Sm.l ?_
        exact Sm.s (Ru.l (Rp.i rfl rfl))
set_option maxHeartbeats 2000000 in
theorem y_X11_isAtOdds_b4 {i0 i0' : Nat} {hh hh' : tq_H} (gi0 : (Rr r d) i0 i0') (ghh : (Em r d W0 H0 al) hh hh') : ∀ s s', (Rp Eq Eq) s s' → Sm (Ru (Rp Eq Eq) Eq) (f_X11_isAtOdds_b4 i0 hh s) (f_X11_isAtOdds_b4 i0' hh' s') := by
  rintro ⟨y1, y2⟩ ⟨_, _⟩ ⟨rfl, rfl⟩
  dsimp only [f_X11_isAtOdds_b4]
  refine Sm.b (Sm.gi ghh gi0) ?_
  rintro x1 _ rfl
  refine Sm.i ?_ ?_
  · exact Sm.s (Ru.r rfl)
  · refine Sm.b (Sm.w (y_X11_isAtOdds_b14 gi0 ghh) tq_N (Rp.i rfl rfl)) ?_
    rintro o30 _ rfl
    refine Sm.l ?_
    exact Sm.s (Ru.l (Rp.i rfl rfl))
set_option maxHeartbeats 2000000 in
theorem y_X11_isAtOdds {t t' : Nat} {h h' : tq_H} (gt : (Rr r d) t t') (gh : (Em r d W0 H0 al) h h') : Sm Eq (f_X11_isAtOdds t h) (f_X11_isAtOdds t' h') := by
  unfold f_X11_isAtOdds
  refine Sm.b (Sm.w (y_X11_isAtOdds_b4 gt gh) tq_N (Rp.i rfl rfl)) ?_
  rintro o32 _ rfl
  refine Sm.b (Sm.r) ?_
  rintro z33 _ rfl
  exact Sm.s rfl
set_option maxHeartbeats 2000000 in
theorem y_X11_isListed_b5 {i0 i0' : Nat} {i1 : Int32} {i2 : Int32} {hh hh' : tq_H} (gi0 : (Rr r d) i0 i0') (ghh : (Em r d W0 H0 al) hh hh') : ∀ s s', (Rp Eq Eq) s s' → Sm (Ru (Rp Eq Eq) Eq) (f_X11_isListed_b5 i0 i1 i2 hh s) (f_X11_isListed_b5 i0' i1 i2 hh' s') := by
  rintro ⟨y3, y4⟩ ⟨_, _⟩ ⟨rfl, rfl⟩
  dsimp only [f_X11_isListed_b5]
  refine Sm.b (Sm.gi ghh gi0) ?_
  rintro x1 _ rfl
  refine Sm.i ?_ ?_
  · exact Sm.s (Ru.r rfl)
  · refine Sm.b (R := Eq) ?_ ?_
    · refine Sm.i ?_ ?_
      · refine Sm.b (Sm.gr ghh gi0) ?_
        rintro k2 k2' gk2
        refine Sm.b (Sm.ai ghh gk2) ?_
        rintro x3 _ rfl
        refine Sm.i ?_ ?_
        · refine Sm.b (Sm.gr ghh gi0) ?_
          rintro k4 k4' gk4
          refine Sm.b (Sm.ai ghh gk4) ?_
          rintro x5 _ rfl
          refine Sm.i ?_ ?_
          · exact Sm.s rfl
          · exact Sm.s rfl
        · exact Sm.s rfl
      · exact Sm.s rfl
    · rintro p6 _ rfl
      refine Sm.l ?_
      exact Sm.s (Ru.l (Rp.i rfl rfl))
set_option maxHeartbeats 2000000 in
theorem y_X11_isListed {t t' : Nat} {a1 : Int32} {a2 : Int32} {h h' : tq_H} (gt : (Rr r d) t t') (gh : (Em r d W0 H0 al) h h') : Sm Eq (f_X11_isListed t a1 a2 h) (f_X11_isListed t' a1 a2 h') := by
  unfold f_X11_isListed
  refine Sm.b (Sm.w (y_X11_isListed_b5 gt gh) tq_N (Rp.i rfl rfl)) ?_
  rintro o8 _ rfl
  refine Sm.b (Sm.r) ?_
  rintro z9 _ rfl
  exact Sm.s rfl
set_option maxHeartbeats 2000000 in
theorem y_X11_remember_b2 {i0 i0' : Nat} (gi0 : (Rr r d) i0 i0') : ∀ s s', (Rp Eq (Em r d W0 H0 al)) s s' → Sm (Ru (Rp Eq (Em r d W0 H0 al)) (Em r d W0 H0 al)) (f_X11_remember_b2 i0 s) (f_X11_remember_b2 i0' s') := by
  rintro ⟨y1, hh⟩ ⟨_, hh'⟩ ⟨rfl, ghh⟩
  dsimp only [f_X11_remember_b2]
  refine Sm.i ?_ ?_
  · exact Sm.s (Ru.r ghh)
  · refine Sm.b (Sm.gr ghh gi0) ?_
    rintro k1 k1' gk1
    refine Sm.b (Sm.gr ghh gi0) ?_
    rintro k2 k2' gk2
    refine Sm.b (Sm.ai ghh gk2) ?_
    rintro x3 _ rfl
    refine Sm.b (Sm.si ghh gk1) ?_
    rintro w4 w4' gw4
    refine Sm.b (Sm.gr gw4 gi0) ?_
    rintro k5 k5' gk5
    refine Sm.b (Sm.gr gw4 gi0) ?_
    rintro k6 k6' gk6
    refine Sm.b (Sm.ai gw4 gk6) ?_
    rintro x7 _ rfl
    refine Sm.b (Sm.si gw4 gk5) ?_
    rintro w8 w8' gw8
    refine Sm.b (Sm.gr gw8 gi0) ?_
    rintro k9 k9' gk9
    refine Sm.b (Sm.gr gw8 gi0) ?_
    rintro k10 k10' gk10
    refine Sm.b (Sm.ai gw8 gk10) ?_
    rintro x11 _ rfl
    refine Sm.b (Sm.si gw8 gk9) ?_
    rintro w12 w12' gw12
    refine Sm.b (Sm.gr gw12 gi0) ?_
    rintro k13 k13' gk13
    refine Sm.b (Sm.gr gw12 gi0) ?_
    rintro k14 k14' gk14
    refine Sm.b (Sm.ai gw12 gk14) ?_
    rintro x15 _ rfl
    refine Sm.b (Sm.si gw12 gk13) ?_
    rintro w16 w16' gw16
    refine Sm.b (Sm.gr gw16 gi0) ?_
    rintro k17 k17' gk17
    refine Sm.b (Sm.gr gw16 gi0) ?_
    rintro k18 k18' gk18
    refine Sm.b (Sm.ai gw16 gk18) ?_
    rintro x19 _ rfl
    refine Sm.b (Sm.si gw16 gk17) ?_
    rintro w20 w20' gw20
    refine Sm.b (Sm.gr gw20 gi0) ?_
    rintro k21 k21' gk21
    refine Sm.b (Sm.gr gw20 gi0) ?_
    rintro k22 k22' gk22
    refine Sm.b (Sm.az gw20 gk22) ?_
    rintro x23 _ rfl
    refine Sm.b (Sm.sz gw20 gk21) ?_
    rintro w24 w24' gw24
    refine Sm.l ?_
    exact Sm.s (Ru.l (Rp.i rfl gw24))
set_option maxHeartbeats 2000000 in
theorem y_X11_remember {t t' : Nat} {h h' : tq_H} (gt : (Rr r d) t t') (gh : (Em r d W0 H0 al) h h') : Sm (Em r d W0 H0 al) (f_X11_remember t h) (f_X11_remember t' h') := by
  unfold f_X11_remember
  refine Sm.b (Sm.w (y_X11_remember_b2 gt) tq_N (Rp.i rfl gh)) ?_
  rintro o26 o26' go26
  exact Sm.s go26
set_option maxHeartbeats 2000000 in
theorem y_X11_comeBack_b2 {i0 i0' : Nat} (gi0 : (Rr r d) i0 i0') : ∀ s s', (Rp Eq (Em r d W0 H0 al)) s s' → Sm (Ru (Rp Eq (Em r d W0 H0 al)) (Em r d W0 H0 al)) (f_X11_comeBack_b2 i0 s) (f_X11_comeBack_b2 i0' s') := by
  rintro ⟨y1, hh⟩ ⟨_, hh'⟩ ⟨rfl, ghh⟩
  dsimp only [f_X11_comeBack_b2]
  refine Sm.i ?_ ?_
  · exact Sm.s (Ru.r ghh)
  · refine Sm.b (Sm.gr ghh gi0) ?_
    rintro k1 k1' gk1
    refine Sm.b (Sm.gr ghh gi0) ?_
    rintro k2 k2' gk2
    refine Sm.b (Sm.ai ghh gk2) ?_
    rintro x3 _ rfl
    refine Sm.b (Sm.si ghh gk1) ?_
    rintro w4 w4' gw4
    refine Sm.b (Sm.gr gw4 gi0) ?_
    rintro k5 k5' gk5
    refine Sm.b (Sm.gr gw4 gi0) ?_
    rintro k6 k6' gk6
    refine Sm.b (Sm.ai gw4 gk6) ?_
    rintro x7 _ rfl
    refine Sm.b (Sm.si gw4 gk5) ?_
    rintro w8 w8' gw8
    refine Sm.b (Sm.gr gw8 gi0) ?_
    rintro k9 k9' gk9
    refine Sm.b (Sm.gr gw8 gi0) ?_
    rintro k10 k10' gk10
    refine Sm.b (Sm.ai gw8 gk10) ?_
    rintro x11 _ rfl
    refine Sm.b (Sm.si gw8 gk9) ?_
    rintro w12 w12' gw12
    refine Sm.b (Sm.gr gw12 gi0) ?_
    rintro k13 k13' gk13
    refine Sm.b (Sm.gr gw12 gi0) ?_
    rintro k14 k14' gk14
    refine Sm.b (Sm.ai gw12 gk14) ?_
    rintro x15 _ rfl
    refine Sm.b (Sm.si gw12 gk13) ?_
    rintro w16 w16' gw16
    refine Sm.b (Sm.gr gw16 gi0) ?_
    rintro k17 k17' gk17
    refine Sm.b (Sm.gr gw16 gi0) ?_
    rintro k18 k18' gk18
    refine Sm.b (Sm.ai gw16 gk18) ?_
    rintro x19 _ rfl
    refine Sm.b (Sm.si gw16 gk17) ?_
    rintro w20 w20' gw20
    refine Sm.b (Sm.gr gw20 gi0) ?_
    rintro k21 k21' gk21
    refine Sm.b (Sm.gr gw20 gi0) ?_
    rintro k22 k22' gk22
    refine Sm.b (Sm.az gw20 gk22) ?_
    rintro x23 _ rfl
    refine Sm.b (Sm.sz gw20 gk21) ?_
    rintro w24 w24' gw24
    refine Sm.l ?_
    exact Sm.s (Ru.l (Rp.i rfl gw24))
set_option maxHeartbeats 2000000 in
theorem y_X11_comeBack {t t' : Nat} {h h' : tq_H} (gt : (Rr r d) t t') (gh : (Em r d W0 H0 al) h h') : Sm (Em r d W0 H0 al) (f_X11_comeBack t h) (f_X11_comeBack t' h') := by
  unfold f_X11_comeBack
  refine Sm.b (Sm.w (y_X11_comeBack_b2 gt) tq_N (Rp.i rfl gh)) ?_
  rintro o26 o26' go26
  exact Sm.s go26
set_option maxHeartbeats 2000000 in
theorem y_X11_nodeOf_b7 {i0 i0' : Nat} {i1 : Int32} {hh hh' : tq_H} (gi0 : (Rr r d) i0 i0') (ghh : (Em r d W0 H0 al) hh hh') : ∀ s s', (Rp Eq Eq) s s' → Sm (Ru (Rp Eq Eq) Eq) (f_X11_nodeOf_b7 i0 i1 hh s) (f_X11_nodeOf_b7 i0' i1 hh' s') := by
  rintro ⟨y2, y3⟩ ⟨_, _⟩ ⟨rfl, rfl⟩
  dsimp only [f_X11_nodeOf_b7]
  refine Sm.i ?_ ?_
  · exact Sm.s (Ru.r rfl)
  · refine Sm.b (Sm.gr ghh gi0) ?_
    rintro k2 k2' gk2
    refine Sm.b (Sm.ai ghh gk2) ?_
    rintro x3 _ rfl
    refine Sm.l ?_
    refine Sm.l ?_
    refine Sm.l ?_
    exact Sm.s (Ru.l (Rp.i rfl rfl))
set_option maxHeartbeats 2000000 in
theorem y_X11_nodeOf {t t' : Nat} {a1 : Int32} {h h' : tq_H} (gt : (Rr r d) t t') (gh : (Em r d W0 H0 al) h h') : Sm Eq (f_X11_nodeOf t a1 h) (f_X11_nodeOf t' a1 h') := by
  unfold f_X11_nodeOf
  refine Sm.b (Sm.gi gh gt) ?_
  rintro x1 _ rfl
  refine Sm.b (Sm.w (y_X11_nodeOf_b7 gt gh) tq_N (Rp.i rfl rfl)) ?_
  rintro o7 _ rfl
  refine Sm.b (Sm.gr gh gt) ?_
  rintro k8 k8' gk8
  refine Sm.b (Sm.ai gh gk8) ?_
  rintro x9 _ rfl
  refine Sm.b (R := Eq) ?_ ?_
  · refine Sm.i ?_ ?_
    · exact Sm.s rfl
    · refine Sm.b (Sm.gr gh gt) ?_
      rintro k10 k10' gk10
      refine Sm.b (Sm.ai gh gk10) ?_
      rintro x11 _ rfl
      exact Sm.s rfl
  · rintro p12 _ rfl
    exact Sm.s rfl
set_option maxHeartbeats 2000000 in
theorem y_X11_layChildren_b14 {i0 i0' : Nat} {i1 : Int32} {i2 : Int32} {i4 : Int32} (gi0 : (Rr r d) i0 i0') : ∀ s s', (Rp Eq (Rp Eq (Em r d W0 H0 al))) s s' → Sm (Ru (Rp Eq (Rp Eq (Em r d W0 H0 al))) (Rp Eq (Em r d W0 H0 al))) (f_X11_layChildren_b14 i0 i1 i2 i4 s) (f_X11_layChildren_b14 i0' i1 i2 i4 s') := by
  rintro ⟨y3, ⟨y5, hh⟩⟩ ⟨_, ⟨_, hh'⟩⟩ ⟨rfl, ⟨rfl, ghh⟩⟩
  dsimp only [f_X11_layChildren_b14]
  refine Sm.b (Sm.gi ghh gi0) ?_
  rintro x1 _ rfl
  refine Sm.i ?_ ?_
  · exact Sm.s (Ru.r (Rp.i rfl ghh))
  · refine Sm.b (Sm.gr ghh gi0) ?_
    rintro k2 k2' gk2
    refine Sm.b (Sm.ai ghh gk2) ?_
    rintro x3 _ rfl
    refine Sm.b (R := Eq) ?_ ?_
    · refine Sm.i ?_ ?_
      · exact Sm.s rfl
      · refine Sm.b (Sm.gr ghh gi0) ?_
        rintro k4 k4' gk4
        refine Sm.b (Sm.ai ghh gk4) ?_
        rintro x5 _ rfl
        refine Sm.i ?_ ?_
        · refine Sm.b (Sm.gr ghh gi0) ?_
          rintro k6 k6' gk6
          refine Sm.b (Sm.ai ghh gk6) ?_
          rintro x7 _ rfl
          refine Sm.i ?_ ?_
          · exact Sm.s rfl
          · exact Sm.s rfl
        · exact Sm.s rfl
    · rintro p8 _ rfl
      refine Sm.b (R := (Rp Eq (Em r d W0 H0 al))) ?_ ?_
      · refine Sm.i ?_ ?_
        · exact Sm.s (Rp.i rfl ghh)
        · refine Sm.b (Sm.gr ghh gi0) ?_
          rintro k9 k9' gk9
          refine Sm.b (Sm.ai ghh gk9) ?_
          rintro x10 _ rfl
          refine Sm.i ?_ ?_
          · refine Sm.b (Sm.gr ghh gi0) ?_
            rintro k11 k11' gk11
            refine Sm.b (Sm.ai ghh gk11) ?_
            rintro x12 _ rfl
            refine Sm.i ?_ ?_
            · refine Sm.b (Sm.is ghh gi0) ?_
              intro _ _ _
              refine Sm.b (y_X11_nodeOf gi0 ghh) ?_
              rintro v13 _ rfl
              refine Sm.b (Sm.gr ghh gi0) ?_
              rintro k15 k15' gk15
              refine Sm.b (Sm.si ghh gk15) ?_
              rintro w16 w16' gw16
              refine Sm.b (Sm.gr gw16 gi0) ?_
              rintro k17 k17' gk17
              refine Sm.b (Sm.si gw16 gk17) ?_
              rintro w18 w18' gw18
              refine Sm.l ?_
              exact Sm.s (Rp.i rfl gw18)
            · exact Sm.s (Rp.i rfl ghh)
          · exact Sm.s (Rp.i rfl ghh)
      · rintro ⟨p20a, p20b⟩ ⟨_, p20b'⟩ ⟨rfl, gp20b⟩
        refine Sm.l ?_
        exact Sm.s (Ru.l (Rp.i rfl (Rp.i rfl gp20b)))
set_option maxHeartbeats 2000000 in
theorem y_X11_layChildren_b147 {i0 i0' : Nat} {i1 : Int32} {i2 : Int32} {i4 : Int32} (gi0 : (Rr r d) i0 i0') : ∀ s s', (Rp Eq (Rp Eq (Em r d W0 H0 al))) s s' → Sm (Ru (Rp Eq (Rp Eq (Em r d W0 H0 al))) (Rp Eq (Em r d W0 H0 al))) (f_X11_layChildren_b147 i0 i1 i2 i4 s) (f_X11_layChildren_b147 i0' i1 i2 i4 s') := by
  rintro ⟨y3, ⟨y5, hh⟩⟩ ⟨_, ⟨_, hh'⟩⟩ ⟨rfl, ⟨rfl, ghh⟩⟩
  dsimp only [f_X11_layChildren_b147]
  refine Sm.b (Sm.gi ghh gi0) ?_
  rintro x23 _ rfl
  refine Sm.i ?_ ?_
  · exact Sm.s (Ru.r (Rp.i rfl ghh))
  · refine Sm.b (Sm.gr ghh gi0) ?_
    rintro k24 k24' gk24
    refine Sm.b (Sm.az ghh gk24) ?_
    rintro x25 _ rfl
    refine Sm.b (R := Eq) ?_ ?_
    · refine Sm.i ?_ ?_
      · exact Sm.s rfl
      · refine Sm.b (Sm.gr ghh gi0) ?_
        rintro k26 k26' gk26
        refine Sm.b (Sm.ai ghh gk26) ?_
        rintro x27 _ rfl
        refine Sm.i ?_ ?_
        · refine Sm.b (Sm.gr ghh gi0) ?_
          rintro k28 k28' gk28
          refine Sm.b (Sm.ai ghh gk28) ?_
          rintro x29 _ rfl
          refine Sm.i ?_ ?_
          · refine Sm.b (Sm.gr ghh gi0) ?_
            rintro k30 k30' gk30
            refine Sm.b (Sm.ai ghh gk30) ?_
            rintro x31 _ rfl
            refine Sm.i ?_ ?_
            · exact Sm.s rfl
            · exact Sm.s rfl
          · exact Sm.s rfl
        · exact Sm.s rfl
    · rintro p32 _ rfl
      refine Sm.b (R := (Rp Eq (Em r d W0 H0 al))) ?_ ?_
      · refine Sm.i ?_ ?_
        · exact Sm.s (Rp.i rfl ghh)
        · refine Sm.b (Sm.is ghh gi0) ?_
          intro _ _ _
          refine Sm.b (y_X11_isListed gi0 ghh) ?_
          rintro v33 _ rfl
          refine Sm.i ?_ ?_
          · refine Sm.b (Sm.is ghh gi0) ?_
            intro _ _ _
            refine Sm.b (y_X11_isListed gi0 ghh) ?_
            rintro v35 _ rfl
            refine Sm.i ?_ ?_
            · refine Sm.b (Sm.gr ghh gi0) ?_
              rintro k37 k37' gk37
              refine Sm.b (Sm.si ghh gk37) ?_
              rintro w38 w38' gw38
              refine Sm.l ?_
              exact Sm.s (Rp.i rfl gw38)
            · exact Sm.s (Rp.i rfl ghh)
          · exact Sm.s (Rp.i rfl ghh)
      · rintro ⟨p40a, p40b⟩ ⟨_, p40b'⟩ ⟨rfl, gp40b⟩
        refine Sm.l ?_
        exact Sm.s (Ru.l (Rp.i rfl (Rp.i rfl gp40b)))
set_option maxHeartbeats 2000000 in
theorem y_X11_layChildren_b5 {i0 i0' : Nat} {i1 : Int32} {i2 : Int32} (gi0 : (Rr r d) i0 i0') : ∀ s s', (Rp Eq (Rp Eq (Em r d W0 H0 al))) s s' → Sm (Ru (Rp Eq (Rp Eq (Em r d W0 H0 al))) (Em r d W0 H0 al)) (f_X11_layChildren_b5 i0 i1 i2 s) (f_X11_layChildren_b5 i0' i1 i2 s') := by
  rintro ⟨y3, ⟨y4, hh⟩⟩ ⟨_, ⟨_, hh'⟩⟩ ⟨rfl, ⟨rfl, ghh⟩⟩
  dsimp only [f_X11_layChildren_b5]
  refine Sm.i ?_ ?_
  · exact Sm.s (Ru.r ghh)
  · refine Sm.b (Sm.w (y_X11_layChildren_b14 gi0) tq_N (Rp.i rfl (Rp.i rfl ghh))) ?_
    rintro ⟨o22a, o22b⟩ ⟨_, o22b'⟩ ⟨rfl, go22b⟩
    refine Sm.b (Sm.w (y_X11_layChildren_b147 gi0) tq_N (Rp.i rfl (Rp.i rfl go22b))) ?_
    rintro ⟨o42a, o42b⟩ ⟨_, o42b'⟩ ⟨rfl, go42b⟩
    refine Sm.l ?_
    exact Sm.s (Ru.l (Rp.i rfl (Rp.i rfl go42b)))
set_option maxHeartbeats 2000000 in
theorem y_X11_layChildren {t t' : Nat} {a1 : Int32} {a2 : Int32} {h h' : tq_H} (gt : (Rr r d) t t') (gh : (Em r d W0 H0 al) h h') : Sm (Em r d W0 H0 al) (f_X11_layChildren t a1 a2 h) (f_X11_layChildren t' a1 a2 h') := by
  unfold f_X11_layChildren
  refine Sm.b (Sm.w (y_X11_layChildren_b5 gt) tq_N (Rp.i rfl (Rp.i rfl gh))) ?_
  rintro o44 o44' go44
  exact Sm.s go44
set_option maxHeartbeats 2000000 in
theorem y_X11_hangs_b4 {i0 i0' : Nat} {hh hh' : tq_H} (gi0 : (Rr r d) i0 i0') (ghh : (Em r d W0 H0 al) hh hh') : ∀ s s', (Rp Eq Eq) s s' → Sm (Ru (Rp Eq Eq) Eq) (f_X11_hangs_b4 i0 hh s) (f_X11_hangs_b4 i0' hh' s') := by
  rintro ⟨y2, y3⟩ ⟨_, _⟩ ⟨rfl, rfl⟩
  dsimp only [f_X11_hangs_b4]
  refine Sm.i ?_ ?_
  · exact Sm.s (Ru.r rfl)
  · refine Sm.i ?_ ?_
    · exact Sm.s (Ru.r rfl)
    · refine Sm.b (Sm.gr ghh gi0) ?_
      rintro k1 k1' gk1
      refine Sm.b (Sm.ai ghh gk1) ?_
      rintro x2 _ rfl
      refine Sm.l ?_
      exact Sm.s (Ru.l (Rp.i rfl rfl))
set_option maxHeartbeats 2000000 in
theorem y_X11_hangs {t t' : Nat} {a1 : Int32} {h h' : tq_H} (gt : (Rr r d) t t') (gh : (Em r d W0 H0 al) h h') : Sm Eq (f_X11_hangs t a1 h) (f_X11_hangs t' a1 h') := by
  unfold f_X11_hangs
  refine Sm.b (Sm.w (y_X11_hangs_b4 gt gh) tq_N (Rp.i rfl rfl)) ?_
  rintro o4 _ rfl
  refine Sm.l ?_
  refine Sm.b (Sm.r) ?_
  rintro z6 _ rfl
  exact Sm.s rfl
set_option maxHeartbeats 2000000 in
theorem y_X11_goesRound_b9 {i0 i0' : Nat} {i1 : Int32} {hh hh' : tq_H} (gi0 : (Rr r d) i0 i0') (ghh : (Em r d W0 H0 al) hh hh') : ∀ s s', (Rp Eq Eq) s s' → Sm (Ru (Rp Eq Eq) Eq) (f_X11_goesRound_b9 i0 i1 hh s) (f_X11_goesRound_b9 i0' i1 hh' s') := by
  rintro ⟨y2, y3⟩ ⟨_, _⟩ ⟨rfl, rfl⟩
  dsimp only [f_X11_goesRound_b9]
  refine Sm.i ?_ ?_
  · exact Sm.s (Ru.r rfl)
  · refine Sm.i ?_ ?_
    · exact Sm.s (Ru.r rfl)
    · refine Sm.i ?_ ?_
      · exact Sm.s (Ru.r rfl)
      · refine Sm.b (Sm.gr ghh gi0) ?_
        rintro k3 k3' gk3
        refine Sm.b (Sm.ai ghh gk3) ?_
        rintro x4 _ rfl
        refine Sm.l ?_
        exact Sm.s (Ru.l (Rp.i rfl rfl))
set_option maxHeartbeats 2000000 in
theorem y_X11_goesRound {t t' : Nat} {a1 : Int32} {h h' : tq_H} (gt : (Rr r d) t t') (gh : (Em r d W0 H0 al) h h') : Sm Eq (f_X11_goesRound t a1 h) (f_X11_goesRound t' a1 h') := by
  unfold f_X11_goesRound
  refine Sm.b (Sm.gr gh gt) ?_
  rintro k1 k1' gk1
  refine Sm.b (Sm.ai gh gk1) ?_
  rintro x2 _ rfl
  refine Sm.b (Sm.w (y_X11_goesRound_b9 gt gh) tq_N (Rp.i rfl rfl)) ?_
  rintro o6 _ rfl
  refine Sm.l ?_
  refine Sm.b (Sm.r) ?_
  rintro z8 _ rfl
  exact Sm.s rfl
set_option maxHeartbeats 2000000 in
theorem y_X11_hasTwice_b14 {i0 i0' : Nat} {i2 : Int32} {hh hh' : tq_H} (gi0 : (Rr r d) i0 i0') (ghh : (Em r d W0 H0 al) hh hh') : ∀ s s', (Rp Eq Eq) s s' → Sm (Ru (Rp Eq Eq) Eq) (f_X11_hasTwice_b14 i0 i2 hh s) (f_X11_hasTwice_b14 i0' i2 hh' s') := by
  rintro ⟨y1, y3⟩ ⟨_, _⟩ ⟨rfl, rfl⟩
  dsimp only [f_X11_hasTwice_b14]
  refine Sm.i ?_ ?_
  · exact Sm.s (Ru.r rfl)
  · refine Sm.b (Sm.gr ghh gi0) ?_
    rintro k2 k2' gk2
    refine Sm.b (Sm.az ghh gk2) ?_
    rintro x3 _ rfl
    refine Sm.b (R := Eq) ?_ ?_
    · refine Sm.i ?_ ?_
      · exact Sm.s rfl
      · refine Sm.b (Sm.gr ghh gi0) ?_
        rintro k4 k4' gk4
        refine Sm.b (Sm.az ghh gk4) ?_
        rintro x5 _ rfl
        refine Sm.i ?_ ?_
        · exact Sm.s rfl
        · refine Sm.b (Sm.gr ghh gi0) ?_
          rintro k6 k6' gk6
          refine Sm.b (Sm.ai ghh gk6) ?_
          rintro x7 _ rfl
          refine Sm.i ?_ ?_
          · refine Sm.b (Sm.gr ghh gi0) ?_
            rintro k8 k8' gk8
            refine Sm.b (Sm.ai ghh gk8) ?_
            rintro x9 _ rfl
            refine Sm.i ?_ ?_
            · exact Sm.s rfl
            · exact Sm.s rfl
          · exact Sm.s rfl
    · rintro p10 _ rfl
      refine Sm.b (R := Eq) ?_ ?_
      · refine Sm.i ?_ ?_
        · refine Sm.i ?_ ?_
          · exact Sm.s rfl
          · refine Sm.b (Sm.gr ghh gi0) ?_
            rintro k11 k11' gk11
            refine Sm.b (Sm.ai ghh gk11) ?_
            rintro x12 _ rfl
            refine Sm.b (Sm.gr ghh gi0) ?_
            rintro k13 k13' gk13
            refine Sm.b (Sm.ai ghh gk13) ?_
            rintro x14 _ rfl
            refine Sm.i ?_ ?_
            · refine Sm.b (Sm.gr ghh gi0) ?_
              rintro k15 k15' gk15
              refine Sm.b (Sm.ai ghh gk15) ?_
              rintro x16 _ rfl
              refine Sm.b (Sm.gr ghh gi0) ?_
              rintro k17 k17' gk17
              refine Sm.b (Sm.ai ghh gk17) ?_
              rintro x18 _ rfl
              refine Sm.i ?_ ?_
              · exact Sm.s rfl
              · exact Sm.s rfl
            · exact Sm.s rfl
        · exact Sm.s rfl
      · rintro p19 _ rfl
        refine Sm.l ?_
        exact Sm.s (Ru.l (Rp.i rfl rfl))
set_option maxHeartbeats 2000000 in
theorem y_X11_hasTwice_b4 {i0 i0' : Nat} {hh hh' : tq_H} (gi0 : (Rr r d) i0 i0') (ghh : (Em r d W0 H0 al) hh hh') : ∀ s s', (Rp Eq Eq) s s' → Sm (Ru (Rp Eq Eq) Eq) (f_X11_hasTwice_b4 i0 hh s) (f_X11_hasTwice_b4 i0' hh' s') := by
  rintro ⟨y1, y2⟩ ⟨_, _⟩ ⟨rfl, rfl⟩
  dsimp only [f_X11_hasTwice_b4]
  refine Sm.b (Sm.gi ghh gi0) ?_
  rintro x1 _ rfl
  refine Sm.i ?_ ?_
  · exact Sm.s (Ru.r rfl)
  · refine Sm.b (Sm.w (y_X11_hasTwice_b14 gi0 ghh) tq_N (Rp.i rfl rfl)) ?_
    rintro o21 _ rfl
    refine Sm.l ?_
    exact Sm.s (Ru.l (Rp.i rfl rfl))
set_option maxHeartbeats 2000000 in
theorem y_X11_hasTwice {t t' : Nat} {h h' : tq_H} (gt : (Rr r d) t t') (gh : (Em r d W0 H0 al) h h') : Sm Eq (f_X11_hasTwice t h) (f_X11_hasTwice t' h') := by
  unfold f_X11_hasTwice
  refine Sm.b (Sm.w (y_X11_hasTwice_b4 gt gh) tq_N (Rp.i rfl rfl)) ?_
  rintro o23 _ rfl
  refine Sm.b (Sm.r) ?_
  rintro z24 _ rfl
  exact Sm.s rfl
set_option maxHeartbeats 2000000 in
theorem y_X11_madeBehind_b7 {i0 i0' : Nat} {hh hh' : tq_H} (gi0 : (Rr r d) i0 i0') (ghh : (Em r d W0 H0 al) hh hh') : ∀ s s', (Rp Eq Eq) s s' → Sm (Ru (Rp Eq Eq) Eq) (f_X11_madeBehind_b7 i0 hh s) (f_X11_madeBehind_b7 i0' hh' s') := by
  rintro ⟨y1, y2⟩ ⟨_, _⟩ ⟨rfl, rfl⟩
  dsimp only [f_X11_madeBehind_b7]
  refine Sm.b (Sm.gi ghh gi0) ?_
  rintro x2 _ rfl
  refine Sm.i ?_ ?_
  · exact Sm.s (Ru.r rfl)
  · refine Sm.b (Sm.gr ghh gi0) ?_
    rintro k3 k3' gk3
    refine Sm.b (Sm.ai ghh gk3) ?_
    rintro x4 _ rfl
    refine Sm.l ?_
    refine Sm.l ?_
    refine Sm.l ?_
    exact Sm.s (Ru.l (Rp.i rfl rfl))
set_option maxHeartbeats 2000000 in
theorem y_X11_madeBehind {t t' : Nat} {h h' : tq_H} (gt : (Rr r d) t t') (gh : (Em r d W0 H0 al) h h') : Sm Eq (f_X11_madeBehind t h) (f_X11_madeBehind t' h') := by
  unfold f_X11_madeBehind
  refine Sm.b (Sm.gi gh gt) ?_
  rintro x1 _ rfl
  refine Sm.b (Sm.w (y_X11_madeBehind_b7 gt gh) tq_N (Rp.i rfl rfl)) ?_
  rintro o8 _ rfl
  exact Sm.s rfl
set_option maxHeartbeats 2000000 in
theorem y_X11_countBack_b4 {i0 i0' : Nat} {i1 : Int32} {hh hh' : tq_H} (gi0 : (Rr r d) i0 i0') (ghh : (Em r d W0 H0 al) hh hh') : ∀ s s', (Rp Eq Eq) s s' → Sm (Ru (Rp Eq Eq) Eq) (f_X11_countBack_b4 i0 i1 hh s) (f_X11_countBack_b4 i0' i1 hh' s') := by
  rintro ⟨y2, y3⟩ ⟨_, _⟩ ⟨rfl, rfl⟩
  dsimp only [f_X11_countBack_b4]
  refine Sm.i ?_ ?_
  · exact Sm.s (Ru.r rfl)
  · refine Sm.b (Sm.gr ghh gi0) ?_
    rintro k1 k1' gk1
    refine Sm.b (Sm.az ghh gk1) ?_
    rintro x2 _ rfl
    refine Sm.b (R := Eq) ?_ ?_
    · refine Sm.i ?_ ?_
      · exact Sm.s rfl
      · refine Sm.b (Sm.gr ghh gi0) ?_
        rintro k3 k3' gk3
        refine Sm.b (Sm.ai ghh gk3) ?_
        rintro x4 _ rfl
        refine Sm.i ?_ ?_
        · refine Sm.b (Sm.gr ghh gi0) ?_
          rintro k5 k5' gk5
          refine Sm.b (Sm.ai ghh gk5) ?_
          rintro x6 _ rfl
          refine Sm.i ?_ ?_
          · exact Sm.s rfl
          · exact Sm.s rfl
        · exact Sm.s rfl
    · rintro p7 _ rfl
      refine Sm.l ?_
      refine Sm.l ?_
      exact Sm.s (Ru.l (Rp.i rfl rfl))
set_option maxHeartbeats 2000000 in
theorem y_X11_countBack {t t' : Nat} {a1 : Int32} {h h' : tq_H} (gt : (Rr r d) t t') (gh : (Em r d W0 H0 al) h h') : Sm Eq (f_X11_countBack t a1 h) (f_X11_countBack t' a1 h') := by
  unfold f_X11_countBack
  refine Sm.b (Sm.w (y_X11_countBack_b4 gt gh) tq_N (Rp.i rfl rfl)) ?_
  rintro o10 _ rfl
  exact Sm.s rfl
set_option maxHeartbeats 2000000 in
theorem y_X11_perform_b7 {i0 i0' : Nat} {i1 : Int32} (gi0 : (Rr r d) i0 i0') : ∀ s s', (Rp Eq (Em r d W0 H0 al)) s s' → Sm (Ru (Rp Eq (Em r d W0 H0 al)) (Em r d W0 H0 al)) (f_X11_perform_b7 i0 i1 s) (f_X11_perform_b7 i0' i1 s') := by
  rintro ⟨y2, hh⟩ ⟨_, hh'⟩ ⟨rfl, ghh⟩
  dsimp only [f_X11_perform_b7]
  refine Sm.b (Sm.gi ghh gi0) ?_
  rintro x2 _ rfl
  refine Sm.i ?_ ?_
  · exact Sm.s (Ru.r ghh)
  · refine Sm.l ?_
    refine Sm.b (Sm.gr ghh gi0) ?_
    rintro k4 k4' gk4
    refine Sm.b (Sm.ai ghh gk4) ?_
    rintro x5 _ rfl
    refine Sm.b (R := (Em r d W0 H0 al)) ?_ ?_
    · refine Sm.i ?_ ?_
      · refine Sm.b (Sm.gr ghh gi0) ?_
        rintro k30 k30' gk30
        refine Sm.b (Sm.gi ghh gi0) ?_
        rintro x31 _ rfl
        refine Sm.b (Sm.gr ghh gi0) ?_
        rintro k32 k32' gk32
        refine Sm.b (Sm.ai ghh gk32) ?_
        rintro x33 _ rfl
        refine Sm.b (Sm.si ghh gk30) ?_
        rintro w34 w34' gw34
        refine Sm.b (Sm.gr gw34 gi0) ?_
        rintro k35 k35' gk35
        refine Sm.b (Sm.gi gw34 gi0) ?_
        rintro x36 _ rfl
        refine Sm.b (Sm.gr gw34 gi0) ?_
        rintro k37 k37' gk37
        refine Sm.b (Sm.ai gw34 gk37) ?_
        rintro x38 _ rfl
        refine Sm.b (Sm.si gw34 gk35) ?_
        rintro w39 w39' gw39
        refine Sm.b (Sm.gr gw39 gi0) ?_
        rintro k40 k40' gk40
        refine Sm.b (Sm.gi gw39 gi0) ?_
        rintro x41 _ rfl
        refine Sm.b (Sm.gr gw39 gi0) ?_
        rintro k42 k42' gk42
        refine Sm.b (Sm.ai gw39 gk42) ?_
        rintro x43 _ rfl
        refine Sm.b (Sm.si gw39 gk40) ?_
        rintro w44 w44' gw44
        refine Sm.b (Sm.gr gw44 gi0) ?_
        rintro k45 k45' gk45
        refine Sm.b (Sm.gi gw44 gi0) ?_
        rintro x46 _ rfl
        refine Sm.b (Sm.si gw44 gk45) ?_
        rintro w47 w47' gw47
        refine Sm.b (Sm.gr gw47 gi0) ?_
        rintro k48 k48' gk48
        refine Sm.b (Sm.gi gw47 gi0) ?_
        rintro x49 _ rfl
        refine Sm.b (Sm.gr gw47 gi0) ?_
        rintro k50 k50' gk50
        refine Sm.b (Sm.ai gw47 gk50) ?_
        rintro x51 _ rfl
        refine Sm.b (Sm.si gw47 gk48) ?_
        rintro w52 w52' gw52
        refine Sm.b (Sm.gr gw52 gi0) ?_
        rintro k53 k53' gk53
        refine Sm.b (Sm.gi gw52 gi0) ?_
        rintro x54 _ rfl
        refine Sm.b (Sm.si gw52 gk53) ?_
        rintro w55 w55' gw55
        refine Sm.b (Sm.gr gw55 gi0) ?_
        rintro k56 k56' gk56
        refine Sm.b (Sm.gi gw55 gi0) ?_
        rintro x57 _ rfl
        refine Sm.b (Sm.sz gw55 gk56) ?_
        rintro w58 w58' gw58
        refine Sm.b (Sm.gr gw58 gi0) ?_
        rintro k59 k59' gk59
        refine Sm.b (Sm.gi gw58 gi0) ?_
        rintro x60 _ rfl
        refine Sm.b (Sm.sz gw58 gk59) ?_
        rintro w61 w61' gw61
        refine Sm.b (Sm.gi gw61 gi0) ?_
        rintro x62 _ rfl
        refine Sm.b (Sm.pf gw61 gi0 (okV_i _)) ?_
        rintro w63 w63' gw63
        exact Sm.s gw63
      · refine Sm.b (Sm.gr ghh gi0) ?_
        rintro k6 k6' gk6
        refine Sm.b (Sm.ai ghh gk6) ?_
        rintro x7 _ rfl
        refine Sm.i ?_ ?_
        · refine Sm.b (Sm.gr ghh gi0) ?_
          rintro k24 k24' gk24
          refine Sm.b (Sm.gr ghh gi0) ?_
          rintro k25 k25' gk25
          refine Sm.b (Sm.ai ghh gk25) ?_
          rintro x26 _ rfl
          refine Sm.b (Sm.gr ghh gi0) ?_
          rintro k27 k27' gk27
          refine Sm.b (Sm.ai ghh gk27) ?_
          rintro x28 _ rfl
          refine Sm.b (Sm.si ghh gk24) ?_
          rintro w29 w29' gw29
          exact Sm.s gw29
        · refine Sm.b (Sm.gr ghh gi0) ?_
          rintro k8 k8' gk8
          refine Sm.b (Sm.ai ghh gk8) ?_
          rintro x9 _ rfl
          refine Sm.i ?_ ?_
          · refine Sm.b (Sm.gr ghh gi0) ?_
            rintro k18 k18' gk18
            refine Sm.b (Sm.gr ghh gi0) ?_
            rintro k19 k19' gk19
            refine Sm.b (Sm.ai ghh gk19) ?_
            rintro x20 _ rfl
            refine Sm.b (Sm.gr ghh gi0) ?_
            rintro k21 k21' gk21
            refine Sm.b (Sm.ai ghh gk21) ?_
            rintro x22 _ rfl
            refine Sm.b (Sm.si ghh gk18) ?_
            rintro w23 w23' gw23
            exact Sm.s gw23
          · refine Sm.b (Sm.gr ghh gi0) ?_
            rintro k10 k10' gk10
            refine Sm.b (Sm.ai ghh gk10) ?_
            rintro x11 _ rfl
            refine Sm.i ?_ ?_
            · refine Sm.b (Sm.gr ghh gi0) ?_
              rintro k12 k12' gk12
              refine Sm.b (Sm.gr ghh gi0) ?_
              rintro k13 k13' gk13
              refine Sm.b (Sm.ai ghh gk13) ?_
              rintro x14 _ rfl
              refine Sm.b (Sm.gr ghh gi0) ?_
              rintro k15 k15' gk15
              refine Sm.b (Sm.ai ghh gk15) ?_
              rintro x16 _ rfl
              refine Sm.b (Sm.si ghh gk12) ?_
              rintro w17 w17' gw17
              exact Sm.s gw17
            · exact Sm.s ghh
    · rintro p64 p64' gp64
      refine Sm.l ?_
      exact Sm.s (Ru.l (Rp.i rfl gp64))
set_option maxHeartbeats 2000000 in
theorem y_X11_perform_b270 {i0 i0' : Nat} {i1 : Int32} {i2 : Int32} (gi0 : (Rr r d) i0 i0') : ∀ s s', (Rp Eq (Em r d W0 H0 al)) s s' → Sm (Ru (Rp Eq (Em r d W0 H0 al)) (Em r d W0 H0 al)) (f_X11_perform_b270 i0 i1 i2 s) (f_X11_perform_b270 i0' i1 i2 s') := by
  rintro ⟨y3, hh⟩ ⟨_, hh'⟩ ⟨rfl, ghh⟩
  dsimp only [f_X11_perform_b270]
  refine Sm.i ?_ ?_
  · exact Sm.s (Ru.r ghh)
  · refine Sm.b (Sm.gr ghh gi0) ?_
    rintro k69 k69' gk69
    refine Sm.b (Sm.az ghh gk69) ?_
    rintro x70 _ rfl
    refine Sm.b (R := (Em r d W0 H0 al)) ?_ ?_
    · refine Sm.i ?_ ?_
      · exact Sm.s ghh
      · refine Sm.b (Sm.gr ghh gi0) ?_
        rintro k71 k71' gk71
        refine Sm.b (Sm.ai ghh gk71) ?_
        rintro x72 _ rfl
        refine Sm.i ?_ ?_
        · refine Sm.b (Sm.is ghh gi0) ?_
          intro _ _ _
          refine Sm.b (y_X11_countBack gi0 ghh) ?_
          rintro v73 _ rfl
          refine Sm.b (Sm.is ghh gi0) ?_
          intro _ _ _
          refine Sm.b (y_X11_layChildren gi0 ghh) ?_
          rintro v75 v75' gv75
          exact Sm.s gv75
        · exact Sm.s ghh
    · rintro p77 p77' gp77
      refine Sm.l ?_
      exact Sm.s (Ru.l (Rp.i rfl gp77))
set_option maxHeartbeats 2000000 in
theorem y_X11_perform_b316 {i0 i0' : Nat} (gi0 : (Rr r d) i0 i0') : ∀ s s', (Rp Eq (Em r d W0 H0 al)) s s' → Sm (Ru (Rp Eq (Em r d W0 H0 al)) (Em r d W0 H0 al)) (f_X11_perform_b316 i0 s) (f_X11_perform_b316 i0' s') := by
  rintro ⟨y3, hh⟩ ⟨_, hh'⟩ ⟨rfl, ghh⟩
  dsimp only [f_X11_perform_b316]
  refine Sm.b (Sm.gi ghh gi0) ?_
  rintro x81 _ rfl
  refine Sm.i ?_ ?_
  · exact Sm.s (Ru.r ghh)
  · refine Sm.b (Sm.gr ghh gi0) ?_
    rintro k82 k82' gk82
    refine Sm.b (Sm.ai ghh gk82) ?_
    rintro x83 _ rfl
    refine Sm.b (R := (Em r d W0 H0 al)) ?_ ?_
    · refine Sm.i ?_ ?_
      · refine Sm.b (Sm.gr ghh gi0) ?_
        rintro k84 k84' gk84
        refine Sm.b (Sm.gr ghh gi0) ?_
        rintro k85 k85' gk85
        refine Sm.b (Sm.ai ghh gk85) ?_
        rintro x86 _ rfl
        refine Sm.b (Sm.sz ghh gk84) ?_
        rintro w87 w87' gw87
        refine Sm.b (Sm.gr gw87 gi0) ?_
        rintro k88 k88' gk88
        refine Sm.b (Sm.gr gw87 gi0) ?_
        rintro k89 k89' gk89
        refine Sm.b (Sm.ai gw87 gk89) ?_
        rintro x90 _ rfl
        refine Sm.b (Sm.si gw87 gk88) ?_
        rintro w91 w91' gw91
        exact Sm.s gw91
      · exact Sm.s ghh
    · rintro p92 p92' gp92
      refine Sm.l ?_
      exact Sm.s (Ru.l (Rp.i rfl gp92))
set_option maxHeartbeats 2000000 in
theorem y_X11_perform {t t' : Nat} {h h' : tq_H} (gt : (Rr r d) t t') (gh : (Em r d W0 H0 al) h h') : Sm (Em r d W0 H0 al) (f_X11_perform t h) (f_X11_perform t' h') := by
  unfold f_X11_perform
  refine Sm.b (Sm.gi gh gt) ?_
  rintro x1 _ rfl
  refine Sm.b (Sm.w (y_X11_perform_b7 gt) tq_N (Rp.i rfl gh)) ?_
  rintro o66 o66' go66
  refine Sm.b (Sm.gi go66 gt) ?_
  rintro x67 _ rfl
  refine Sm.b (Sm.pf go66 gt (okV_i _)) ?_
  rintro w68 w68' gw68
  refine Sm.b (Sm.w (y_X11_perform_b270 gt) tq_N (Rp.i rfl gw68)) ?_
  rintro o79 o79' go79
  refine Sm.b (Sm.pf go79 gt (okV_i _)) ?_
  rintro w80 w80' gw80
  refine Sm.b (Sm.w (y_X11_perform_b316 gt) tq_N (Rp.i rfl gw80)) ?_
  rintro o94 o94' go94
  exact Sm.s go94
set_option maxHeartbeats 2000000 in
theorem y_X11_isSound_b4 {i0 i0' : Nat} {i1 : Int32} {hh hh' : tq_H} (gi0 : (Rr r d) i0 i0') (ghh : (Em r d W0 H0 al) hh hh') : ∀ s s', (Rp Eq Eq) s s' → Sm (Ru (Rp Eq Eq) Eq) (f_X11_isSound_b4 i0 i1 hh s) (f_X11_isSound_b4 i0' i1 hh' s') := by
  rintro ⟨y2, y3⟩ ⟨_, _⟩ ⟨rfl, rfl⟩
  dsimp only [f_X11_isSound_b4]
  refine Sm.i ?_ ?_
  · exact Sm.s (Ru.r rfl)
  · refine Sm.b (R := Eq) ?_ ?_
    · refine Sm.i ?_ ?_
      · exact Sm.s rfl
      · refine Sm.b (Sm.gr ghh gi0) ?_
        rintro k1 k1' gk1
        refine Sm.b (Sm.az ghh gk1) ?_
        rintro x2 _ rfl
        refine Sm.i ?_ ?_
        · exact Sm.s rfl
        · refine Sm.b (Sm.is ghh gi0) ?_
          intro _ _ _
          refine Sm.b (y_X11_goesRound gi0 ghh) ?_
          rintro v3 _ rfl
          refine Sm.i ?_ ?_
          · exact Sm.s rfl
          · exact Sm.s rfl
    · rintro p5 _ rfl
      refine Sm.l ?_
      exact Sm.s (Ru.l (Rp.i rfl rfl))
set_option maxHeartbeats 2000000 in
theorem y_X11_isSound {t t' : Nat} {a1 : Int32} {h h' : tq_H} (gt : (Rr r d) t t') (gh : (Em r d W0 H0 al) h h') : Sm Eq (f_X11_isSound t a1 h) (f_X11_isSound t' a1 h') := by
  unfold f_X11_isSound
  refine Sm.b (Sm.w (y_X11_isSound_b4 gt gh) tq_N (Rp.i rfl rfl)) ?_
  rintro o7 _ rfl
  refine Sm.b (Sm.r) ?_
  rintro z8 _ rfl
  exact Sm.s rfl
set_option maxHeartbeats 2000000 in
theorem y_X11_isOf_b24 {i0 i0' : Nat} {i1 : Int32} {i2 : Int32} {hh hh' : tq_H} (gi0 : (Rr r d) i0 i0') (ghh : (Em r d W0 H0 al) hh hh') : ∀ s s', (Rp Eq Eq) s s' → Sm (Ru (Rp Eq Eq) Eq) (f_X11_isOf_b24 i0 i1 i2 hh s) (f_X11_isOf_b24 i0' i1 i2 hh' s') := by
  rintro ⟨y3, y4⟩ ⟨_, _⟩ ⟨rfl, rfl⟩
  dsimp only [f_X11_isOf_b24]
  refine Sm.i ?_ ?_
  · exact Sm.s (Ru.r rfl)
  · refine Sm.b (Sm.is ghh gi0) ?_
    intro _ _ _
    refine Sm.b (y_X11_attributeOf gi0 ghh) ?_
    rintro v6 _ rfl
    refine Sm.l ?_
    refine Sm.b (Sm.gr ghh gi0) ?_
    rintro k9 k9' gk9
    refine Sm.b (Sm.ai ghh gk9) ?_
    rintro x10 _ rfl
    refine Sm.l ?_
    refine Sm.l ?_
    exact Sm.s (Ru.l (Rp.i rfl rfl))
set_option maxHeartbeats 2000000 in
theorem y_X11_isOf_b158 {i0 i0' : Nat} {i1 : Int32} {i2 : Int32} {i3 : Int32} {i4 : Int32} {i5 : Int32} {i6 : Int32} {i7 : Int32} {hh hh' : tq_H} (gi0 : (Rr r d) i0 i0') (ghh : (Em r d W0 H0 al) hh hh') : ∀ s s', (Rp Eq Eq) s s' → Sm (Ru (Rp Eq Eq) Eq) (f_X11_isOf_b158 i0 i1 i2 i3 i4 i5 i6 i7 hh s) (f_X11_isOf_b158 i0' i1 i2 i3 i4 i5 i6 i7 hh' s') := by
  rintro ⟨y8, y9⟩ ⟨_, _⟩ ⟨rfl, rfl⟩
  dsimp only [f_X11_isOf_b158]
  refine Sm.i ?_ ?_
  · exact Sm.s (Ru.r rfl)
  · refine Sm.b (R := Eq) ?_ ?_
    · refine Sm.i ?_ ?_
      · refine Sm.b (Sm.gr ghh gi0) ?_
        rintro k20 k20' gk20
        refine Sm.b (Sm.ai ghh gk20) ?_
        rintro x21 _ rfl
        refine Sm.i ?_ ?_
        · exact Sm.s rfl
        · exact Sm.s rfl
      · exact Sm.s rfl
    · rintro p22 _ rfl
      refine Sm.b (R := Eq) ?_ ?_
      · refine Sm.i ?_ ?_
        · exact Sm.s rfl
        · refine Sm.b (Sm.gr ghh gi0) ?_
          rintro k23 k23' gk23
          refine Sm.b (Sm.ai ghh gk23) ?_
          rintro x24 _ rfl
          exact Sm.s rfl
      · rintro p25 _ rfl
        refine Sm.l ?_
        refine Sm.l ?_
        exact Sm.s (Ru.l (Rp.i rfl rfl))
set_option maxHeartbeats 2000000 in
theorem y_X11_isOf_b111 {i0 i0' : Nat} {i1 : Int32} {i2 : Int32} {i5 : Int32} {hh hh' : tq_H} (gi0 : (Rr r d) i0 i0') (ghh : (Em r d W0 H0 al) hh hh') : ∀ s s', (Rp Eq (Rp Eq Eq)) s s' → Sm (Ru (Rp Eq (Rp Eq Eq)) (Rp Eq Eq)) (f_X11_isOf_b111 i0 i1 i2 i5 hh s) (f_X11_isOf_b111 i0' i1 i2 i5 hh' s') := by
  rintro ⟨y3, ⟨y4, y6⟩⟩ ⟨_, ⟨_, _⟩⟩ ⟨rfl, ⟨rfl, rfl⟩⟩
  dsimp only [f_X11_isOf_b111]
  refine Sm.i ?_ ?_
  · exact Sm.s (Ru.r (Rp.i rfl rfl))
  · refine Sm.i ?_ ?_
    · exact Sm.s (Ru.r (Rp.i rfl rfl))
    · refine Sm.b (Sm.is ghh gi0) ?_
      intro _ _ _
      refine Sm.b (y_X11_childAt gi0 ghh) ?_
      rintro v16 _ rfl
      refine Sm.b (Sm.gr ghh gi0) ?_
      rintro k18 k18' gk18
      refine Sm.b (Sm.ai ghh gk18) ?_
      rintro x19 _ rfl
      refine Sm.b (R := (Rp Eq Eq)) ?_ ?_
      · refine Sm.i ?_ ?_
        · refine Sm.b (Sm.gr ghh gi0) ?_
          rintro k29 k29' gk29
          refine Sm.b (Sm.az ghh gk29) ?_
          rintro x30 _ rfl
          exact Sm.s (Rp.i rfl rfl)
        · refine Sm.b (Sm.w (y_X11_isOf_b158 gi0 ghh) tq_N (Rp.i rfl rfl)) ?_
          rintro o28 _ rfl
          exact Sm.s (Rp.i rfl rfl)
      · rintro ⟨p31a, p31b⟩ ⟨_, _⟩ ⟨rfl, rfl⟩
        refine Sm.l ?_
        exact Sm.s (Ru.l (Rp.i rfl (Rp.i rfl rfl)))
set_option maxHeartbeats 2000000 in
theorem y_X11_isOf {t t' : Nat} {a1 : Int32} {a2 : Int32} {h h' : tq_H} (gt : (Rr r d) t t') (gh : (Em r d W0 H0 al) h h') : Sm Eq (f_X11_isOf t a1 a2 h) (f_X11_isOf t' a1 a2 h') := by
  unfold f_X11_isOf
  refine Sm.b (Sm.gr gh gt) ?_
  rintro k1 k1' gk1
  refine Sm.b (Sm.ai gh gk1) ?_
  rintro x2 _ rfl
  refine Sm.b (Sm.gr gh gt) ?_
  rintro k3 k3' gk3
  refine Sm.b (Sm.ai gh gk3) ?_
  rintro x4 _ rfl
  refine Sm.l ?_
  refine Sm.b (Sm.w (y_X11_isOf_b24 gt gh) tq_N (Rp.i rfl rfl)) ?_
  rintro o13 _ rfl
  refine Sm.b (Sm.is gh gt) ?_
  intro _ _ _
  refine Sm.b (y_X11_childCount gt gh) ?_
  rintro v14 _ rfl
  refine Sm.b (Sm.w (y_X11_isOf_b111 gt gh) tq_N (Rp.i rfl (Rp.i rfl rfl))) ?_
  rintro ⟨o33a, o33b⟩ ⟨_, _⟩ ⟨rfl, rfl⟩
  refine Sm.b (R := Eq) ?_ ?_
  · refine Sm.i ?_ ?_
    · exact Sm.s rfl
    · refine Sm.b (Sm.gr gh gt) ?_
      rintro k34 k34' gk34
      refine Sm.b (Sm.ai gh gk34) ?_
      rintro x35 _ rfl
      refine Sm.i ?_ ?_
      · exact Sm.s rfl
      · exact Sm.s rfl
  · rintro p36 _ rfl
    refine Sm.b (Sm.r) ?_
    rintro z37 _ rfl
    exact Sm.s rfl
set_option maxHeartbeats 2000000 in
theorem y_X11_findTypes_b27 {i0 i0' : Nat} {i1 : Int32} {i2 : Int32} (gi0 : (Rr r d) i0 i0') : ∀ s s', (Rp Eq (Em r d W0 H0 al)) s s' → Sm (Ru (Rp Eq (Em r d W0 H0 al)) (Em r d W0 H0 al)) (f_X11_findTypes_b27 i0 i1 i2 s) (f_X11_findTypes_b27 i0' i1 i2 s') := by
  rintro ⟨y3, hh⟩ ⟨_, hh'⟩ ⟨rfl, ghh⟩
  dsimp only [f_X11_findTypes_b27]
  refine Sm.i ?_ ?_
  · exact Sm.s (Ru.r ghh)
  · refine Sm.b (Sm.gr ghh gi0) ?_
    rintro k7 k7' gk7
    refine Sm.b (Sm.ai ghh gk7) ?_
    rintro x8 _ rfl
    refine Sm.i ?_ ?_
    · refine Sm.b (Sm.gr ghh gi0) ?_
      rintro k9 k9' gk9
      refine Sm.b (Sm.ai ghh gk9) ?_
      rintro x10 _ rfl
      refine Sm.b (Sm.is ghh gi0) ?_
      intro _ _ _
      refine Sm.b (y_X11_isOf gi0 ghh) ?_
      rintro v11 _ rfl
      refine Sm.l ?_
      refine Sm.b (Sm.si ghh gk9) ?_
      rintro w14 w14' gw14
      refine Sm.l ?_
      exact Sm.s (Ru.l (Rp.i rfl gw14))
    · exact Sm.s (Ru.r ghh)
set_option maxHeartbeats 2000000 in
theorem y_X11_findTypes_b7 {i0 i0' : Nat} (gi0 : (Rr r d) i0 i0') : ∀ s s', (Rp Eq (Em r d W0 H0 al)) s s' → Sm (Ru (Rp Eq (Em r d W0 H0 al)) (Em r d W0 H0 al)) (f_X11_findTypes_b7 i0 s) (f_X11_findTypes_b7 i0' s') := by
  rintro ⟨y1, hh⟩ ⟨_, hh'⟩ ⟨rfl, ghh⟩
  dsimp only [f_X11_findTypes_b7]
  refine Sm.i ?_ ?_
  · exact Sm.s (Ru.r ghh)
  · refine Sm.b (Sm.gr ghh gi0) ?_
    rintro k3 k3' gk3
    refine Sm.b (Sm.ai ghh gk3) ?_
    rintro x4 _ rfl
    refine Sm.b (Sm.gr ghh gi0) ?_
    rintro k5 k5' gk5
    refine Sm.b (Sm.si ghh gk5) ?_
    rintro w6 w6' gw6
    refine Sm.b (Sm.w (y_X11_findTypes_b27 gi0) tq_N (Rp.i rfl gw6)) ?_
    rintro o16 o16' go16
    refine Sm.l ?_
    exact Sm.s (Ru.l (Rp.i rfl go16))
set_option maxHeartbeats 2000000 in
theorem y_X11_findTypes {t t' : Nat} {h h' : tq_H} (gt : (Rr r d) t t') (gh : (Em r d W0 H0 al) h h') : Sm (Em r d W0 H0 al) (f_X11_findTypes t h) (f_X11_findTypes t' h') := by
  unfold f_X11_findTypes
  refine Sm.b (Sm.gi gh gt) ?_
  rintro x1 _ rfl
  refine Sm.l ?_
  refine Sm.b (Sm.w (y_X11_findTypes_b7 gt) tq_N (Rp.i rfl gh)) ?_
  rintro o18 o18' go18
  exact Sm.s go18
set_option maxHeartbeats 2000000 in
theorem y_X11_isRight {t t' : Nat} {h h' : tq_H} (gt : (Rr r d) t t') (gh : (Em r d W0 H0 al) h h') : Sm (Rp Eq (Em r d W0 H0 al)) (f_X11_isRight t h) (f_X11_isRight t' h') := by
  unfold f_X11_isRight
  refine Sm.b (Sm.is gh gt) ?_
  intro _ _ _
  refine Sm.b (y_X11_findTypes gt gh) ?_
  rintro v1 v1' gv1
  refine Sm.b (Sm.gr gv1 gt) ?_
  rintro k3 k3' gk3
  refine Sm.b (Sm.ai gv1 gk3) ?_
  rintro x4 _ rfl
  refine Sm.l ?_
  refine Sm.b (Sm.r) ?_
  rintro z6 _ rfl
  exact Sm.s (Rp.i rfl gv1)
set_option maxHeartbeats 2000000 in
theorem y_X11_markNew_b44 {i0 i0' : Nat} {i2 : Int64} {i4 : Int32} {hh hh' : tq_H} (gi0 : (Rr r d) i0 i0') (ghh : (Em r d W0 H0 al) hh hh') : ∀ s s', (Rp Eq Eq) s s' → Sm (Ru (Rp Eq Eq) Eq) (f_X11_markNew_b44 i0 i2 i4 hh s) (f_X11_markNew_b44 i0' i2 i4 hh' s') := by
  rintro ⟨y5, y6⟩ ⟨_, _⟩ ⟨rfl, rfl⟩
  dsimp only [f_X11_markNew_b44]
  refine Sm.i ?_ ?_
  · exact Sm.s (Ru.r rfl)
  · refine Sm.b (Sm.gr ghh gi0) ?_
    rintro k5 k5' gk5
    refine Sm.b (Sm.az ghh gk5) ?_
    rintro x6 _ rfl
    refine Sm.i ?_ ?_
    · exact Sm.s (Ru.r rfl)
    · refine Sm.b (R := Eq) ?_ ?_
      · refine Sm.i ?_ ?_
        · refine Sm.b (Sm.is ghh gi0) ?_
          intro _ _ _
          refine Sm.b (y_X11_isListed gi0 ghh) ?_
          rintro v7 _ rfl
          refine Sm.i ?_ ?_
          · exact Sm.s rfl
          · exact Sm.s rfl
        · exact Sm.s rfl
      · rintro p9 _ rfl
        refine Sm.b (Sm.gr ghh gi0) ?_
        rintro k10 k10' gk10
        refine Sm.b (Sm.ai ghh gk10) ?_
        rintro x11 _ rfl
        exact Sm.s (Ru.l (Rp.i rfl rfl))
set_option maxHeartbeats 2000000 in
theorem y_X11_markNew_b3 {i0 i0' : Nat} {i2 : Int64} (gi0 : (Rr r d) i0 i0') : ∀ s s', (Rp Eq (Em r d W0 H0 al)) s s' → Sm (Ru (Rp Eq (Em r d W0 H0 al)) (Em r d W0 H0 al)) (f_X11_markNew_b3 i0 i2 s) (f_X11_markNew_b3 i0' i2 s') := by
  rintro ⟨y4, hh⟩ ⟨_, hh'⟩ ⟨rfl, ghh⟩
  dsimp only [f_X11_markNew_b3]
  refine Sm.b (Sm.gi ghh gi0) ?_
  rintro x1 _ rfl
  refine Sm.i ?_ ?_
  · exact Sm.s (Ru.r ghh)
  · refine Sm.b (Sm.gr ghh gi0) ?_
    rintro k2 k2' gk2
    refine Sm.b (Sm.az ghh gk2) ?_
    rintro x3 _ rfl
    refine Sm.l ?_
    refine Sm.b (Sm.w (y_X11_markNew_b44 gi0 ghh) tq_N (Rp.i rfl rfl)) ?_
    rintro o12 _ rfl
    refine Sm.b (Sm.gr ghh gi0) ?_
    rintro k13 k13' gk13
    refine Sm.b (Sm.sz ghh gk13) ?_
    rintro w14 w14' gw14
    refine Sm.l ?_
    exact Sm.s (Ru.l (Rp.i rfl gw14))
set_option maxHeartbeats 2000000 in
theorem y_X11_markNew {t t' : Nat} {a1 : Int32} {a2 : Int64} {h h' : tq_H} (gt : (Rr r d) t t') (gh : (Em r d W0 H0 al) h h') : Sm (Em r d W0 H0 al) (f_X11_markNew t a1 a2 h) (f_X11_markNew t' a1 a2 h') := by
  unfold f_X11_markNew
  refine Sm.b (Sm.w (y_X11_markNew_b3 gt) tq_N (Rp.i rfl gh)) ?_
  rintro o16 o16' go16
  exact Sm.s go16
set_option maxHeartbeats 2000000 in
theorem y_X11_numberRow_b4 {i0 i0' : Nat} {i1 : Int32} {hh hh' : tq_H} (gi0 : (Rr r d) i0 i0') (ghh : (Em r d W0 H0 al) hh hh') : ∀ s s', (Rp Eq Eq) s s' → Sm (Ru (Rp Eq Eq) Eq) (f_X11_numberRow_b4 i0 i1 hh s) (f_X11_numberRow_b4 i0' i1 hh' s') := by
  rintro ⟨y2, y3⟩ ⟨_, _⟩ ⟨rfl, rfl⟩
  dsimp only [f_X11_numberRow_b4]
  refine Sm.i ?_ ?_
  · exact Sm.s (Ru.r rfl)
  · refine Sm.b (Sm.gr ghh gi0) ?_
    rintro k1 k1' gk1
    refine Sm.b (Sm.gr ghh gi0) ?_
    rintro k2 k2' gk2
    refine Sm.b (Sm.ai ghh gk2) ?_
    rintro x3 _ rfl
    refine Sm.b (Sm.ai ghh gk1) ?_
    rintro x4 _ rfl
    refine Sm.b (R := Eq) ?_ ?_
    · refine Sm.i ?_ ?_
      · exact Sm.s rfl
      · refine Sm.b (Sm.gr ghh gi0) ?_
        rintro k5 k5' gk5
        refine Sm.b (Sm.gr ghh gi0) ?_
        rintro k6 k6' gk6
        refine Sm.b (Sm.ai ghh gk6) ?_
        rintro x7 _ rfl
        refine Sm.b (Sm.ai ghh gk5) ?_
        rintro x8 _ rfl
        exact Sm.s rfl
    · rintro p9 _ rfl
      refine Sm.l ?_
      exact Sm.s (Ru.l (Rp.i rfl rfl))
set_option maxHeartbeats 2000000 in
theorem y_X11_numberRow_b51 {i0 i0' : Nat} {i1 : Int32} {i2 : Int32} {hh hh' : tq_H} (gi0 : (Rr r d) i0 i0') (ghh : (Em r d W0 H0 al) hh hh') : ∀ s s', (Rp Eq Eq) s s' → Sm (Ru (Rp Eq Eq) (Rp Eq Eq)) (f_X11_numberRow_b51 i0 i1 i2 hh s) (f_X11_numberRow_b51 i0' i1 i2 hh' s') := by
  rintro ⟨y3, y4⟩ ⟨_, _⟩ ⟨rfl, rfl⟩
  dsimp only [f_X11_numberRow_b51]
  refine Sm.b (Sm.gi ghh gi0) ?_
  rintro x12 _ rfl
  refine Sm.i ?_ ?_
  · exact Sm.s (Ru.r (Rp.i rfl rfl))
  · refine Sm.b (Sm.gr ghh gi0) ?_
    rintro k13 k13' gk13
    refine Sm.b (Sm.gr ghh gi0) ?_
    rintro k14 k14' gk14
    refine Sm.b (Sm.ai ghh gk14) ?_
    rintro x15 _ rfl
    refine Sm.b (Sm.ai ghh gk13) ?_
    rintro x16 _ rfl
    refine Sm.i ?_ ?_
    · refine Sm.b (Sm.gr ghh gi0) ?_
      rintro k17 k17' gk17
      refine Sm.b (Sm.gr ghh gi0) ?_
      rintro k18 k18' gk18
      refine Sm.b (Sm.ai ghh gk18) ?_
      rintro x19 _ rfl
      refine Sm.b (Sm.ai ghh gk17) ?_
      rintro x20 _ rfl
      refine Sm.l ?_
      refine Sm.l ?_
      refine Sm.l ?_
      exact Sm.s (Ru.l (Rp.i rfl rfl))
    · refine Sm.b (Sm.gr ghh gi0) ?_
      rintro k24 k24' gk24
      refine Sm.b (Sm.gr ghh gi0) ?_
      rintro k25 k25' gk25
      refine Sm.b (Sm.ai ghh gk25) ?_
      rintro x26 _ rfl
      refine Sm.b (Sm.az ghh gk24) ?_
      rintro x27 _ rfl
      refine Sm.i ?_ ?_
      · exact Sm.s (Ru.r (Rp.i rfl rfl))
      · refine Sm.b (Sm.gr ghh gi0) ?_
        rintro k28 k28' gk28
        refine Sm.b (Sm.gr ghh gi0) ?_
        rintro k29 k29' gk29
        refine Sm.b (Sm.ai ghh gk29) ?_
        rintro x30 _ rfl
        refine Sm.b (Sm.ai ghh gk28) ?_
        rintro x31 _ rfl
        refine Sm.l ?_
        refine Sm.l ?_
        refine Sm.l ?_
        exact Sm.s (Ru.l (Rp.i rfl rfl))
set_option maxHeartbeats 2000000 in
theorem y_X11_numberRow_b156 {i0 i0' : Nat} {i2 : Int32} {i3 : Int32} {i4 : Int32} {i5 : Int32} (gi0 : (Rr r d) i0 i0') : ∀ s s', (Rp Eq (Rp Eq (Em r d W0 H0 al))) s s' → Sm (Ru (Rp Eq (Rp Eq (Em r d W0 H0 al))) (Em r d W0 H0 al)) (f_X11_numberRow_b156 i0 i2 i3 i4 i5 s) (f_X11_numberRow_b156 i0' i2 i3 i4 i5 s') := by
  rintro ⟨y6, ⟨y7, hh⟩⟩ ⟨_, ⟨_, hh'⟩⟩ ⟨rfl, ⟨rfl, ghh⟩⟩
  dsimp only [f_X11_numberRow_b156]
  refine Sm.i ?_ ?_
  · exact Sm.s (Ru.r ghh)
  · refine Sm.b (Sm.gr ghh gi0) ?_
    rintro k42 k42' gk42
    refine Sm.b (Sm.gr ghh gi0) ?_
    rintro k43 k43' gk43
    refine Sm.b (Sm.ai ghh gk43) ?_
    rintro x44 _ rfl
    refine Sm.b (Sm.ai ghh gk42) ?_
    rintro x45 _ rfl
    refine Sm.b (R := (Rp Eq (Em r d W0 H0 al))) ?_ ?_
    · refine Sm.i ?_ ?_
      · exact Sm.s (Rp.i rfl ghh)
      · refine Sm.l ?_
        refine Sm.b (Sm.gr ghh gi0) ?_
        rintro k47 k47' gk47
        refine Sm.b (Sm.gr ghh gi0) ?_
        rintro k48 k48' gk48
        refine Sm.b (Sm.ai ghh gk48) ?_
        rintro x49 _ rfl
        refine Sm.b (Sm.gi ghh gi0) ?_
        rintro x50 _ rfl
        refine Sm.b (R := Eq) ?_ ?_
        · refine Sm.i ?_ ?_
          · exact Sm.s rfl
          · refine Sm.b (Sm.r) ?_
            intro _ _ _
            exact Sm.s rfl
        · rintro p52 _ rfl
          refine Sm.b (Sm.si ghh gk47) ?_
          rintro w53 w53' gw53
          exact Sm.s (Rp.i rfl gw53)
    · rintro ⟨p54a, p54b⟩ ⟨_, p54b'⟩ ⟨rfl, gp54b⟩
      refine Sm.l ?_
      exact Sm.s (Ru.l (Rp.i rfl (Rp.i rfl gp54b)))
set_option maxHeartbeats 2000000 in
theorem y_X11_numberRow {t t' : Nat} {a1 : Int32} {h h' : tq_H} (gt : (Rr r d) t t') (gh : (Em r d W0 H0 al) h h') : Sm (Rp Eq (Em r d W0 H0 al)) (f_X11_numberRow t a1 h) (f_X11_numberRow t' a1 h') := by
  unfold f_X11_numberRow
  refine Sm.b (Sm.w (y_X11_numberRow_b4 gt gh) tq_N (Rp.i rfl rfl)) ?_
  rintro o11 _ rfl
  refine Sm.b (Sm.w (y_X11_numberRow_b51 gt gh) tq_N (Rp.i rfl rfl)) ?_
  rintro ⟨o35a, o35b⟩ ⟨_, _⟩ ⟨rfl, rfl⟩
  refine Sm.b (Sm.gi gh gt) ?_
  rintro x36 _ rfl
  refine Sm.b (R := Eq) ?_ ?_
  · refine Sm.i ?_ ?_
    · exact Sm.s rfl
    · refine Sm.b (Sm.gr gh gt) ?_
      rintro k37 k37' gk37
      refine Sm.b (Sm.gr gh gt) ?_
      rintro k38 k38' gk38
      refine Sm.b (Sm.ai gh gk38) ?_
      rintro x39 _ rfl
      refine Sm.b (Sm.ai gh gk37) ?_
      rintro x40 _ rfl
      exact Sm.s rfl
  · rintro p41 _ rfl
    refine Sm.b (Sm.w (y_X11_numberRow_b156 gt) tq_N (Rp.i rfl (Rp.i rfl gh))) ?_
    rintro o56 o56' go56
    refine Sm.b (Sm.gi go56 gt) ?_
    rintro x57 _ rfl
    refine Sm.l ?_
    exact Sm.s (Rp.i rfl go56)
set_option maxHeartbeats 2000000 in
theorem y_X11_numberAll_b4 {i0 i0' : Nat} (gi0 : (Rr r d) i0 i0') : ∀ s s', (Rp Eq (Rp Eq (Em r d W0 H0 al))) s s' → Sm (Ru (Rp Eq (Rp Eq (Em r d W0 H0 al))) (Em r d W0 H0 al)) (f_X11_numberAll_b4 i0 s) (f_X11_numberAll_b4 i0' s') := by
  rintro ⟨y1, ⟨y2, hh⟩⟩ ⟨_, ⟨_, hh'⟩⟩ ⟨rfl, ⟨rfl, ghh⟩⟩
  dsimp only [f_X11_numberAll_b4]
  refine Sm.b (Sm.gi ghh gi0) ?_
  rintro x1 _ rfl
  refine Sm.i ?_ ?_
  · exact Sm.s (Ru.r ghh)
  · refine Sm.b (Sm.gr ghh gi0) ?_
    rintro k2 k2' gk2
    refine Sm.b (Sm.gr ghh gi0) ?_
    rintro k3 k3' gk3
    refine Sm.b (Sm.ai ghh gk3) ?_
    rintro x4 _ rfl
    refine Sm.b (Sm.ai ghh gk2) ?_
    rintro x5 _ rfl
    refine Sm.b (R := (Rp Eq (Em r d W0 H0 al))) ?_ ?_
    · refine Sm.i ?_ ?_
      · exact Sm.s (Rp.i rfl ghh)
      · refine Sm.l ?_
        refine Sm.b (Sm.gr ghh gi0) ?_
        rintro k7 k7' gk7
        refine Sm.b (Sm.gr ghh gi0) ?_
        rintro k8 k8' gk8
        refine Sm.b (Sm.ai ghh gk8) ?_
        rintro x9 _ rfl
        refine Sm.b (Sm.si ghh gk7) ?_
        rintro w10 w10' gw10
        exact Sm.s (Rp.i rfl gw10)
    · rintro ⟨p11a, p11b⟩ ⟨_, p11b'⟩ ⟨rfl, gp11b⟩
      refine Sm.l ?_
      exact Sm.s (Ru.l (Rp.i rfl (Rp.i rfl gp11b)))
set_option maxHeartbeats 2000000 in
theorem y_X11_numberAll {t t' : Nat} {h h' : tq_H} (gt : (Rr r d) t t') (gh : (Em r d W0 H0 al) h h') : Sm (Em r d W0 H0 al) (f_X11_numberAll t h) (f_X11_numberAll t' h') := by
  unfold f_X11_numberAll
  refine Sm.b (Sm.w (y_X11_numberAll_b4 gt) tq_N (Rp.i rfl (Rp.i rfl gh))) ?_
  rintro o13 o13' go13
  exact Sm.s go13
set_option maxHeartbeats 2000000 in
theorem y_X11_number_b4 {i0 i0' : Nat} (gi0 : (Rr r d) i0 i0') : ∀ s s', (Rp Eq (Rp Eq (Em r d W0 H0 al))) s s' → Sm (Ru (Rp Eq (Rp Eq (Em r d W0 H0 al))) (Rp Eq (Em r d W0 H0 al))) (f_X11_number_b4 i0 s) (f_X11_number_b4 i0' s') := by
  rintro ⟨y1, ⟨y2, hh⟩⟩ ⟨_, ⟨_, hh'⟩⟩ ⟨rfl, ⟨rfl, ghh⟩⟩
  dsimp only [f_X11_number_b4]
  refine Sm.b (Sm.gi ghh gi0) ?_
  rintro x1 _ rfl
  refine Sm.i ?_ ?_
  · exact Sm.s (Ru.r (Rp.i rfl ghh))
  · refine Sm.b (Sm.gr ghh gi0) ?_
    rintro k2 k2' gk2
    refine Sm.b (Sm.gr ghh gi0) ?_
    rintro k3 k3' gk3
    refine Sm.b (Sm.ai ghh gk3) ?_
    rintro x4 _ rfl
    refine Sm.b (Sm.ai ghh gk2) ?_
    rintro x5 _ rfl
    refine Sm.i ?_ ?_
    · refine Sm.l ?_
      exact Sm.s (Ru.l (Rp.i rfl (Rp.i rfl ghh)))
    · refine Sm.b (Sm.gr ghh gi0) ?_
      rintro k7 k7' gk7
      refine Sm.b (Sm.gr ghh gi0) ?_
      rintro k8 k8' gk8
      refine Sm.b (Sm.ai ghh gk8) ?_
      rintro x9 _ rfl
      refine Sm.b (Sm.az ghh gk7) ?_
      rintro x10 _ rfl
      refine Sm.i ?_ ?_
      · refine Sm.l ?_
        exact Sm.s (Ru.l (Rp.i rfl (Rp.i rfl ghh)))
      · refine Sm.b (Sm.is ghh gi0) ?_
        intro _ _ _
        refine Sm.b (y_X11_numberRow gi0 ghh) ?_
        rintro ⟨v12a, v12b⟩ ⟨_, v12b'⟩ ⟨rfl, gv12b⟩
        refine Sm.l ?_
        refine Sm.l ?_
        exact Sm.s (Ru.l (Rp.i rfl (Rp.i rfl gv12b)))
set_option maxHeartbeats 2000000 in
theorem y_X11_number {t t' : Nat} {h h' : tq_H} (gt : (Rr r d) t t') (gh : (Em r d W0 H0 al) h h') : Sm (Em r d W0 H0 al) (f_X11_number t h) (f_X11_number t' h') := by
  unfold f_X11_number
  refine Sm.b (Sm.w (y_X11_number_b4 gt) tq_N (Rp.i rfl (Rp.i rfl gh))) ?_
  rintro ⟨o16a, o16b⟩ ⟨_, o16b'⟩ ⟨rfl, go16b⟩
  refine Sm.b (R := (Em r d W0 H0 al)) ?_ ?_
  · refine Sm.i ?_ ?_
    · exact Sm.s go16b
    · refine Sm.b (Sm.is go16b gt) ?_
      intro _ _ _
      refine Sm.b (y_X11_numberAll gt go16b) ?_
      rintro v17 v17' gv17
      refine Sm.b (Sm.gi gv17 gt) ?_
      rintro x19 _ rfl
      refine Sm.b (Sm.pf gv17 gt (okV_i _)) ?_
      rintro w20 w20' gw20
      exact Sm.s gw20
  · rintro p21 p21' gp21
    exact Sm.s gp21
set_option maxHeartbeats 2000000 in
theorem y_X11_repeated_b26 {i0 i0' : Nat} {i1 : Int32} {i3 : Int64} {hh hh' : tq_H} (gi0 : (Rr r d) i0 i0') (ghh : (Em r d W0 H0 al) hh hh') : ∀ s s', (Rp Eq Eq) s s' → Sm (Ru (Rp Eq Eq) Eq) (f_X11_repeated_b26 i0 i1 i3 hh s) (f_X11_repeated_b26 i0' i1 i3 hh' s') := by
  rintro ⟨y6, y8⟩ ⟨_, _⟩ ⟨rfl, rfl⟩
  dsimp only [f_X11_repeated_b26]
  refine Sm.b (Sm.gi ghh gi0) ?_
  rintro x3 _ rfl
  refine Sm.i ?_ ?_
  · exact Sm.s (Ru.r rfl)
  · refine Sm.b (Sm.gr ghh gi0) ?_
    rintro k4 k4' gk4
    refine Sm.b (Sm.ai ghh gk4) ?_
    rintro x5 _ rfl
    refine Sm.b (R := Eq) ?_ ?_
    · refine Sm.i ?_ ?_
      · refine Sm.b (Sm.gr ghh gi0) ?_
        rintro k6 k6' gk6
        refine Sm.b (Sm.gr ghh gi0) ?_
        rintro k7 k7' gk7
        refine Sm.b (Sm.ai ghh gk7) ?_
        rintro x8 _ rfl
        refine Sm.b (Sm.aj ghh gk6) ?_
        rintro x9 _ rfl
        exact Sm.s rfl
      · exact Sm.s rfl
    · rintro p10 _ rfl
      refine Sm.l ?_
      refine Sm.l ?_
      exact Sm.s (Ru.l (Rp.i rfl rfl))
set_option maxHeartbeats 2000000 in
theorem y_X11_repeated_b15 {i0 i0' : Nat} {i1 : Int32} {hh hh' : tq_H} (gi0 : (Rr r d) i0 i0') (ghh : (Em r d W0 H0 al) hh hh') : ∀ s s', (Rp Eq Eq) s s' → Sm (Ru (Rp Eq Eq) Eq) (f_X11_repeated_b15 i0 i1 hh s) (f_X11_repeated_b15 i0' i1 hh' s') := by
  rintro ⟨y3, y5⟩ ⟨_, _⟩ ⟨rfl, rfl⟩
  dsimp only [f_X11_repeated_b15]
  refine Sm.i ?_ ?_
  · exact Sm.s (Ru.r rfl)
  · refine Sm.b (Sm.w (y_X11_repeated_b26 gi0 ghh) tq_N (Rp.i rfl rfl)) ?_
    rintro o13 _ rfl
    refine Sm.l ?_
    exact Sm.s (Ru.l (Rp.i rfl rfl))
set_option maxHeartbeats 2000000 in
theorem y_X11_repeated {t t' : Nat} {a1 : Int32} {a2 : Int32} {h h' : tq_H} (gt : (Rr r d) t t') (gh : (Em r d W0 H0 al) h h') : Sm Eq (f_X11_repeated t a1 a2 h) (f_X11_repeated t' a1 a2 h') := by
  unfold f_X11_repeated
  refine Sm.b (Sm.gr gh gt) ?_
  rintro k1 k1' gk1
  refine Sm.b (Sm.aj gh gk1) ?_
  rintro x2 _ rfl
  refine Sm.b (Sm.w (y_X11_repeated_b15 gt gh) tq_N (Rp.i rfl rfl)) ?_
  rintro o15 _ rfl
  exact Sm.s rfl
set_option maxHeartbeats 2000000 in
theorem y_X11_axis_b6 {i0 i0' : Nat} {i1 : Int32} {i2 : Int32} {i3 : Int32} {hh hh' : tq_H} (gi0 : (Rr r d) i0 i0') (ghh : (Em r d W0 H0 al) hh hh') : ∀ s s', (Rp Eq Eq) s s' → Sm (Ru (Rp Eq Eq) Eq) (f_X11_axis_b6 i0 i1 i2 i3 hh s) (f_X11_axis_b6 i0' i1 i2 i3 hh' s') := by
  rintro ⟨y4, y6⟩ ⟨_, _⟩ ⟨rfl, rfl⟩
  dsimp only [f_X11_axis_b6]
  refine Sm.b (Sm.gi ghh gi0) ?_
  rintro x1 _ rfl
  refine Sm.i ?_ ?_
  · exact Sm.s (Ru.r rfl)
  · refine Sm.b (Sm.gr ghh gi0) ?_
    rintro k2 k2' gk2
    refine Sm.b (Sm.ai ghh gk2) ?_
    rintro x3 _ rfl
    refine Sm.b (Sm.gr ghh gi0) ?_
    rintro k4 k4' gk4
    refine Sm.b (Sm.ai ghh gk4) ?_
    rintro x5 _ rfl
    refine Sm.l ?_
    refine Sm.b (Sm.is ghh gi0) ?_
    intro _ _ _
    refine Sm.b (y_X11_isBelow gi0 ghh) ?_
    rintro v7 _ rfl
    refine Sm.b (Sm.is ghh gi0) ?_
    intro _ _ _
    refine Sm.b (y_X11_isBelow gi0 ghh) ?_
    rintro v9 _ rfl
    refine Sm.b (R := Eq) ?_ ?_
    · refine Sm.i ?_ ?_
      · exact Sm.s rfl
      · refine Sm.b (Sm.gr ghh gi0) ?_
        rintro k11 k11' gk11
        refine Sm.b (Sm.ai ghh gk11) ?_
        rintro x12 _ rfl
        refine Sm.i ?_ ?_
        · exact Sm.s rfl
        · refine Sm.i ?_ ?_
          · exact Sm.s rfl
          · refine Sm.b (Sm.gr ghh gi0) ?_
            rintro k13 k13' gk13
            refine Sm.b (Sm.ai ghh gk13) ?_
            rintro x14 _ rfl
            refine Sm.i ?_ ?_
            · exact Sm.s rfl
            · refine Sm.b (Sm.gr ghh gi0) ?_
              rintro k15 k15' gk15
              refine Sm.b (Sm.ai ghh gk15) ?_
              rintro x16 _ rfl
              refine Sm.b (Sm.gr ghh gi0) ?_
              rintro k17 k17' gk17
              refine Sm.b (Sm.ai ghh gk17) ?_
              rintro x18 _ rfl
              refine Sm.i ?_ ?_
              · exact Sm.s rfl
              · exact Sm.s rfl
    · rintro p19 _ rfl
      refine Sm.b (R := Eq) ?_ ?_
      · refine Sm.i ?_ ?_
        · refine Sm.l ?_
          exact Sm.s rfl
        · refine Sm.i ?_ ?_
          · refine Sm.b (R := Eq) ?_ ?_
            · refine Sm.i ?_ ?_
              · exact Sm.s rfl
              · refine Sm.b (Sm.gr ghh gi0) ?_
                rintro k21 k21' gk21
                refine Sm.b (Sm.ai ghh gk21) ?_
                rintro x22 _ rfl
                refine Sm.i ?_ ?_
                · exact Sm.s rfl
                · exact Sm.s rfl
            · rintro p23 _ rfl
              exact Sm.s rfl
          · refine Sm.i ?_ ?_
            · refine Sm.b (Sm.gr ghh gi0) ?_
              rintro k24 k24' gk24
              refine Sm.b (Sm.ai ghh gk24) ?_
              rintro x25 _ rfl
              refine Sm.l ?_
              exact Sm.s rfl
            · refine Sm.i ?_ ?_
              · refine Sm.l ?_
                exact Sm.s rfl
              · refine Sm.i ?_ ?_
                · refine Sm.l ?_
                  exact Sm.s rfl
                · refine Sm.i ?_ ?_
                  · exact Sm.s rfl
                  · refine Sm.i ?_ ?_
                    · refine Sm.l ?_
                      exact Sm.s rfl
                    · refine Sm.i ?_ ?_
                      · refine Sm.b (R := Eq) ?_ ?_
                        · refine Sm.i ?_ ?_
                          · exact Sm.s rfl
                          · refine Sm.b (Sm.gr ghh gi0) ?_
                            rintro k30 k30' gk30
                            refine Sm.b (Sm.ai ghh gk30) ?_
                            rintro x31 _ rfl
                            refine Sm.b (Sm.gr ghh gi0) ?_
                            rintro k32 k32' gk32
                            refine Sm.b (Sm.ai ghh gk32) ?_
                            rintro x33 _ rfl
                            refine Sm.i ?_ ?_
                            · exact Sm.s rfl
                            · refine Sm.i ?_ ?_
                              · exact Sm.s rfl
                              · exact Sm.s rfl
                        · rintro p34 _ rfl
                          exact Sm.s rfl
                      · refine Sm.i ?_ ?_
                        · refine Sm.b (R := Eq) ?_ ?_
                          · refine Sm.i ?_ ?_
                            · exact Sm.s rfl
                            · refine Sm.b (Sm.gr ghh gi0) ?_
                              rintro k35 k35' gk35
                              refine Sm.b (Sm.ai ghh gk35) ?_
                              rintro x36 _ rfl
                              refine Sm.b (Sm.gr ghh gi0) ?_
                              rintro k37 k37' gk37
                              refine Sm.b (Sm.ai ghh gk37) ?_
                              rintro x38 _ rfl
                              refine Sm.i ?_ ?_
                              · exact Sm.s rfl
                              · refine Sm.i ?_ ?_
                                · exact Sm.s rfl
                                · exact Sm.s rfl
                          · rintro p39 _ rfl
                            exact Sm.s rfl
                        · refine Sm.i ?_ ?_
                          · refine Sm.b (R := Eq) ?_ ?_
                            · refine Sm.i ?_ ?_
                              · exact Sm.s rfl
                              · refine Sm.b (Sm.gr ghh gi0) ?_
                                rintro k40 k40' gk40
                                refine Sm.b (Sm.ai ghh gk40) ?_
                                rintro x41 _ rfl
                                refine Sm.b (Sm.gr ghh gi0) ?_
                                rintro k42 k42' gk42
                                refine Sm.b (Sm.ai ghh gk42) ?_
                                rintro x43 _ rfl
                                refine Sm.i ?_ ?_
                                · exact Sm.s rfl
                                · exact Sm.s rfl
                            · rintro p44 _ rfl
                              exact Sm.s rfl
                          · refine Sm.i ?_ ?_
                            · refine Sm.b (R := Eq) ?_ ?_
                              · refine Sm.i ?_ ?_
                                · exact Sm.s rfl
                                · refine Sm.b (Sm.gr ghh gi0) ?_
                                  rintro k45 k45' gk45
                                  refine Sm.b (Sm.ai ghh gk45) ?_
                                  rintro x46 _ rfl
                                  refine Sm.b (Sm.gr ghh gi0) ?_
                                  rintro k47 k47' gk47
                                  refine Sm.b (Sm.ai ghh gk47) ?_
                                  rintro x48 _ rfl
                                  refine Sm.i ?_ ?_
                                  · exact Sm.s rfl
                                  · exact Sm.s rfl
                              · rintro p49 _ rfl
                                exact Sm.s rfl
                            · refine Sm.i ?_ ?_
                              · refine Sm.b (R := Eq) ?_ ?_
                                · refine Sm.i ?_ ?_
                                  · refine Sm.b (Sm.gr ghh gi0) ?_
                                    rintro k50 k50' gk50
                                    refine Sm.b (Sm.ai ghh gk50) ?_
                                    rintro x51 _ rfl
                                    refine Sm.i ?_ ?_
                                    · exact Sm.s rfl
                                    · exact Sm.s rfl
                                  · exact Sm.s rfl
                                · rintro p52 _ rfl
                                  exact Sm.s rfl
                              · exact Sm.s rfl
      · rintro p53 _ rfl
        refine Sm.l ?_
        refine Sm.l ?_
        refine Sm.l ?_
        exact Sm.s (Ru.l (Rp.i rfl rfl))
set_option maxHeartbeats 2000000 in
theorem y_X11_axis {t t' : Nat} {a1 : Int32} {a2 : Int32} {a3 : Int32} {h h' : tq_H} (gt : (Rr r d) t t') (gh : (Em r d W0 H0 al) h h') : Sm Eq (f_X11_axis t a1 a2 a3 h) (f_X11_axis t' a1 a2 a3 h') := by
  unfold f_X11_axis
  refine Sm.b (Sm.w (y_X11_axis_b6 gt gh) tq_N (Rp.i rfl rfl)) ?_
  rintro o57 _ rfl
  refine Sm.b (R := Eq) ?_ ?_
  · refine Sm.i ?_ ?_
    · refine Sm.b (Sm.is gh gt) ?_
      intro _ _ _
      refine Sm.b (y_X11_repeated gt gh) ?_
      rintro v58 _ rfl
      exact Sm.s rfl
    · exact Sm.s rfl
  · rintro p60 _ rfl
    refine Sm.b (Sm.gl gh gt) ?_
    rintro x61 _ rfl
    exact Sm.s rfl
set_option maxHeartbeats 2000000 in
theorem y_X11_passes {t t' : Nat} {a1 : Int32} {a2 : Int32} {h h' : tq_H} (gt : (Rr r d) t t') (gh : (Em r d W0 H0 al) h h') : Sm Eq (f_X11_passes t a1 a2 h) (f_X11_passes t' a1 a2 h') := by
  unfold f_X11_passes
  refine Sm.b (R := Eq) ?_ ?_
  · refine Sm.i ?_ ?_
    · refine Sm.i ?_ ?_
      · exact Sm.s rfl
      · refine Sm.i ?_ ?_
        · refine Sm.b (Sm.gr gh gt) ?_
          rintro k5 k5' gk5
          refine Sm.b (Sm.ai gh gk5) ?_
          rintro x6 _ rfl
          refine Sm.i ?_ ?_
          · exact Sm.s rfl
          · exact Sm.s rfl
        · refine Sm.b (Sm.gr gh gt) ?_
          rintro k1 k1' gk1
          refine Sm.b (Sm.ai gh gk1) ?_
          rintro x2 _ rfl
          refine Sm.i ?_ ?_
          · refine Sm.b (Sm.is gh gt) ?_
            intro _ _ _
            refine Sm.b (y_X11_spaceOf gt gh) ?_
            rintro v3 _ rfl
            refine Sm.i ?_ ?_
            · exact Sm.s rfl
            · exact Sm.s rfl
          · exact Sm.s rfl
    · refine Sm.b (Sm.gr gh gt) ?_
      rintro k7 k7' gk7
      refine Sm.b (Sm.ai gh gk7) ?_
      rintro x8 _ rfl
      refine Sm.i ?_ ?_
      · exact Sm.s rfl
      · refine Sm.b (Sm.gr gh gt) ?_
        rintro k9 k9' gk9
        refine Sm.b (Sm.ai gh gk9) ?_
        rintro x10 _ rfl
        refine Sm.i ?_ ?_
        · exact Sm.s rfl
        · exact Sm.s rfl
  · rintro p11 _ rfl
    refine Sm.b (Sm.r) ?_
    rintro z12 _ rfl
    exact Sm.s rfl
set_option maxHeartbeats 2000000 in
theorem y_X11_compares {a0 : Int32} {a1 : Int32} {a2 : Int32} {h h' : tq_H} (gh : (Em r d W0 H0 al) h h') : Sm Eq (f_X11_compares a0 a1 a2 h) (f_X11_compares a0 a1 a2 h') := by
  unfold f_X11_compares
  refine Sm.l ?_
  refine Sm.b (Sm.r) ?_
  rintro z2 _ rfl
  exact Sm.s rfl
set_option maxHeartbeats 2000000 in
theorem y_X11_holds_b116 {i0 i0' : Nat} {i1 : Int32} {i6 : Int64} {hh hh' : tq_H} (gi0 : (Rr r d) i0 i0') (ghh : (Em r d W0 H0 al) hh hh') : ∀ s s', (Rp Eq Eq) s s' → Sm (Ru (Rp Eq Eq) Eq) (f_X11_holds_b116 i0 i1 i6 hh s) (f_X11_holds_b116 i0' i1 i6 hh' s') := by
  rintro ⟨y8, y9⟩ ⟨_, _⟩ ⟨rfl, rfl⟩
  dsimp only [f_X11_holds_b116]
  refine Sm.b (Sm.gi ghh gi0) ?_
  rintro x7 _ rfl
  refine Sm.i ?_ ?_
  · exact Sm.s (Ru.r rfl)
  · refine Sm.b (Sm.gr ghh gi0) ?_
    rintro k8 k8' gk8
    refine Sm.b (Sm.ai ghh gk8) ?_
    rintro x9 _ rfl
    refine Sm.b (R := Eq) ?_ ?_
    · refine Sm.i ?_ ?_
      · refine Sm.b (Sm.gr ghh gi0) ?_
        rintro k10 k10' gk10
        refine Sm.b (Sm.ai ghh gk10) ?_
        rintro x11 _ rfl
        refine Sm.b (Sm.gl ghh gi0) ?_
        rintro x12 _ rfl
        refine Sm.b (Sm.is ghh gi0) ?_
        intro _ _ _
        refine Sm.b (y_X11_valueOf gi0 ghh) ?_
        rintro v13 _ rfl
        exact Sm.s rfl
      · exact Sm.s rfl
    · rintro p15 _ rfl
      refine Sm.b (R := Eq) ?_ ?_
      · refine Sm.i ?_ ?_
        · refine Sm.i ?_ ?_
          · exact Sm.s rfl
          · refine Sm.b (Sm.gr ghh gi0) ?_
            rintro k16 k16' gk16
            refine Sm.b (Sm.ai ghh gk16) ?_
            rintro x17 _ rfl
            refine Sm.b (Sm.gr ghh gi0) ?_
            rintro k18 k18' gk18
            refine Sm.b (Sm.ai ghh gk18) ?_
            rintro x19 _ rfl
            refine Sm.b (y_X11_compares ghh) ?_
            rintro v20 _ rfl
            refine Sm.i ?_ ?_
            · exact Sm.s rfl
            · exact Sm.s rfl
        · exact Sm.s rfl
      · rintro p21 _ rfl
        refine Sm.l ?_
        exact Sm.s (Ru.l (Rp.i rfl rfl))
set_option maxHeartbeats 2000000 in
theorem y_X11_holds {t t' : Nat} {a1 : Int32} {a2 : Int32} {a3 : Int32} {a4 : Int32} {h h' : tq_H} (gt : (Rr r d) t t') (gh : (Em r d W0 H0 al) h h') : Sm Eq (f_X11_holds t a1 a2 a3 a4 h) (f_X11_holds t' a1 a2 a3 a4 h') := by
  unfold f_X11_holds
  refine Sm.b (Sm.gr gh gt) ?_
  rintro k1 k1' gk1
  refine Sm.b (Sm.ai gh gk1) ?_
  rintro x2 _ rfl
  refine Sm.i ?_ ?_
  · refine Sm.b (Sm.gr gh gt) ?_
    rintro k31 k31' gk31
    refine Sm.b (Sm.ai gh gk31) ?_
    rintro x32 _ rfl
    refine Sm.b (Sm.gr gh gt) ?_
    rintro k33 k33' gk33
    refine Sm.b (Sm.ai gh gk33) ?_
    rintro x34 _ rfl
    refine Sm.b (y_X11_compares gh) ?_
    rintro v35 _ rfl
    refine Sm.b (Sm.r) ?_
    rintro z36 _ rfl
    exact Sm.s rfl
  · refine Sm.i ?_ ?_
    · refine Sm.l ?_
      refine Sm.b (Sm.r) ?_
      rintro z30 _ rfl
      exact Sm.s rfl
    · refine Sm.b (Sm.gr gh gt) ?_
      rintro k3 k3' gk3
      refine Sm.b (Sm.gr gh gt) ?_
      rintro k4 k4' gk4
      refine Sm.b (Sm.ai gh gk4) ?_
      rintro x5 _ rfl
      refine Sm.b (Sm.aj gh gk3) ?_
      rintro x6 _ rfl
      refine Sm.i ?_ ?_
      · refine Sm.b (Sm.w (y_X11_holds_b116 gt gh) tq_N (Rp.i rfl rfl)) ?_
        rintro o23 _ rfl
        refine Sm.b (Sm.r) ?_
        rintro z24 _ rfl
        exact Sm.s rfl
      · refine Sm.l ?_
        refine Sm.l ?_
        refine Sm.l ?_
        refine Sm.b (Sm.r) ?_
        rintro z28 _ rfl
        exact Sm.s rfl
set_option maxHeartbeats 2000000 in
theorem y_X11_stepped_b30 {i0 i0' : Nat} {i1 : Int32} {i3 : Int32} {hh hh' : tq_H} (gi0 : (Rr r d) i0 i0') (ghh : (Em r d W0 H0 al) hh hh') : ∀ s s', (Rp Eq Eq) s s' → Sm (Ru (Rp Eq Eq) Eq) (f_X11_stepped_b30 i0 i1 i3 hh s) (f_X11_stepped_b30 i0' i1 i3 hh' s') := by
  rintro ⟨y4, y6⟩ ⟨_, _⟩ ⟨rfl, rfl⟩
  dsimp only [f_X11_stepped_b30]
  refine Sm.b (Sm.gi ghh gi0) ?_
  rintro x7 _ rfl
  refine Sm.i ?_ ?_
  · exact Sm.s (Ru.r rfl)
  · refine Sm.b (Sm.gr ghh gi0) ?_
    rintro k8 k8' gk8
    refine Sm.b (Sm.ai ghh gk8) ?_
    rintro x9 _ rfl
    refine Sm.b (Sm.gr ghh gi0) ?_
    rintro k10 k10' gk10
    refine Sm.b (Sm.ai ghh gk10) ?_
    rintro x11 _ rfl
    refine Sm.b (Sm.is ghh gi0) ?_
    intro _ _ _
    refine Sm.b (y_X11_passes gi0 ghh) ?_
    rintro v12 _ rfl
    refine Sm.b (R := Eq) ?_ ?_
    · refine Sm.i ?_ ?_
      · refine Sm.b (Sm.gr ghh gi0) ?_
        rintro k14 k14' gk14
        refine Sm.b (Sm.ai ghh gk14) ?_
        rintro x15 _ rfl
        exact Sm.s rfl
      · exact Sm.s rfl
    · rintro p16 _ rfl
      refine Sm.l ?_
      refine Sm.l ?_
      exact Sm.s (Ru.l (Rp.i rfl rfl))
set_option maxHeartbeats 2000000 in
theorem y_X11_stepped_b148 {i0 i0' : Nat} {i1 : Int32} {i4 : Int64} {i6 : Int32} {i7 : Int32} (gi0 : (Rr r d) i0 i0') : ∀ s s', (Rp Eq (Rp Eq (Em r d W0 H0 al))) s s' → Sm (Ru (Rp Eq (Rp Eq (Em r d W0 H0 al))) (Rp Eq (Em r d W0 H0 al))) (f_X11_stepped_b148 i0 i1 i4 i6 i7 s) (f_X11_stepped_b148 i0' i1 i4 i6 i7 s') := by
  rintro ⟨y8, ⟨y9, hh⟩⟩ ⟨_, ⟨_, hh'⟩⟩ ⟨rfl, ⟨rfl, ghh⟩⟩
  dsimp only [f_X11_stepped_b148]
  refine Sm.b (Sm.gi ghh gi0) ?_
  rintro x23 _ rfl
  refine Sm.i ?_ ?_
  · exact Sm.s (Ru.r (Rp.i rfl ghh))
  · refine Sm.b (Sm.gr ghh gi0) ?_
    rintro k24 k24' gk24
    refine Sm.b (R := Eq) ?_ ?_
    · refine Sm.i ?_ ?_
      · exact Sm.s rfl
      · refine Sm.b (Sm.gi ghh gi0) ?_
        rintro x25 _ rfl
        exact Sm.s rfl
    · rintro p26 _ rfl
      refine Sm.b (Sm.ai ghh gk24) ?_
      rintro x27 _ rfl
      refine Sm.b (R := (Rp Eq (Em r d W0 H0 al))) ?_ ?_
      · refine Sm.i ?_ ?_
        · refine Sm.b (Sm.gr ghh gi0) ?_
          rintro k28 k28' gk28
          refine Sm.b (Sm.si ghh gk28) ?_
          rintro w29 w29' gw29
          refine Sm.l ?_
          exact Sm.s (Rp.i rfl gw29)
        · exact Sm.s (Rp.i rfl ghh)
      · rintro ⟨p31a, p31b⟩ ⟨_, p31b'⟩ ⟨rfl, gp31b⟩
        refine Sm.l ?_
        exact Sm.s (Ru.l (Rp.i rfl (Rp.i rfl gp31b)))
set_option maxHeartbeats 2000000 in
theorem y_X11_stepped_b216 {i0 i0' : Nat} {i1 : Int32} {i6 : Int32} {i7 : Int32} {i8 : Int32} {hh hh' : tq_H} (gi0 : (Rr r d) i0 i0') (ghh : (Em r d W0 H0 al) hh hh') : ∀ s s', (Rp Eq Eq) s s' → Sm (Ru (Rp Eq Eq) Eq) (f_X11_stepped_b216 i0 i1 i6 i7 i8 hh s) (f_X11_stepped_b216 i0' i1 i6 i7 i8 hh' s') := by
  rintro ⟨y4, y9⟩ ⟨_, _⟩ ⟨rfl, rfl⟩
  dsimp only [f_X11_stepped_b216]
  refine Sm.i ?_ ?_
  · exact Sm.s (Ru.r rfl)
  · refine Sm.b (Sm.gr ghh gi0) ?_
    rintro k34 k34' gk34
    refine Sm.b (Sm.ai ghh gk34) ?_
    rintro x35 _ rfl
    refine Sm.b (Sm.is ghh gi0) ?_
    intro _ _ _
    refine Sm.b (y_X11_holds gi0 ghh) ?_
    rintro v36 _ rfl
    refine Sm.b (R := Eq) ?_ ?_
    · refine Sm.i ?_ ?_
      · refine Sm.b (Sm.gr ghh gi0) ?_
        rintro k38 k38' gk38
        refine Sm.b (Sm.ai ghh gk38) ?_
        rintro x39 _ rfl
        exact Sm.s rfl
      · exact Sm.s rfl
    · rintro p40 _ rfl
      refine Sm.l ?_
      refine Sm.l ?_
      exact Sm.s (Ru.l (Rp.i rfl rfl))
set_option maxHeartbeats 2000000 in
theorem y_X11_stepped_b131 {i0 i0' : Nat} {i1 : Int32} {i6 : Int32} (gi0 : (Rr r d) i0 i0') : ∀ s s', (Rp Eq (Rp Eq (Em r d W0 H0 al))) s s' → Sm (Ru (Rp Eq (Rp Eq (Em r d W0 H0 al))) (Rp Eq (Em r d W0 H0 al))) (f_X11_stepped_b131 i0 i1 i6 s) (f_X11_stepped_b131 i0' i1 i6 s') := by
  rintro ⟨y4, ⟨y7, hh⟩⟩ ⟨_, ⟨_, hh'⟩⟩ ⟨rfl, ⟨rfl, ghh⟩⟩
  dsimp only [f_X11_stepped_b131]
  refine Sm.b (Sm.gr ghh gi0) ?_
  rintro k21 k21' gk21
  refine Sm.b (Sm.ai ghh gk21) ?_
  rintro x22 _ rfl
  refine Sm.i ?_ ?_
  · exact Sm.s (Ru.r (Rp.i rfl ghh))
  · refine Sm.b (Sm.w (y_X11_stepped_b148 gi0) tq_N (Rp.i rfl (Rp.i rfl ghh))) ?_
    rintro ⟨o33a, o33b⟩ ⟨_, o33b'⟩ ⟨rfl, go33b⟩
    refine Sm.b (Sm.w (y_X11_stepped_b216 gi0 go33b) tq_N (Rp.i rfl rfl)) ?_
    rintro o43 _ rfl
    refine Sm.l ?_
    exact Sm.s (Ru.l (Rp.i rfl (Rp.i rfl go33b)))
set_option maxHeartbeats 2000000 in
theorem y_X11_stepped {t t' : Nat} {a1 : Int32} {a2 : Int32} {h h' : tq_H} (gt : (Rr r d) t t') (gh : (Em r d W0 H0 al) h h') : Sm (Rp Eq (Em r d W0 H0 al)) (f_X11_stepped t a1 a2 h) (f_X11_stepped t' a1 a2 h') := by
  unfold f_X11_stepped
  refine Sm.b (Sm.gr gh gt) ?_
  rintro k1 k1' gk1
  refine Sm.b (Sm.ai gh gk1) ?_
  rintro x2 _ rfl
  refine Sm.b (Sm.gr gh gt) ?_
  rintro k3 k3' gk3
  refine Sm.b (Sm.ai gh gk3) ?_
  rintro x4 _ rfl
  refine Sm.b (Sm.is gh gt) ?_
  intro _ _ _
  refine Sm.b (y_X11_axis gt gh) ?_
  rintro v5 _ rfl
  refine Sm.b (Sm.w (y_X11_stepped_b30 gt gh) tq_N (Rp.i rfl rfl)) ?_
  rintro o19 _ rfl
  refine Sm.l ?_
  refine Sm.b (Sm.w (y_X11_stepped_b131 gt) tq_N (Rp.i rfl (Rp.i rfl gh))) ?_
  rintro ⟨o45a, o45b⟩ ⟨_, o45b'⟩ ⟨rfl, go45b⟩
  exact Sm.s (Rp.i rfl go45b)
set_option maxHeartbeats 2000000 in
theorem y_X11_findAll_b18 {i0 i0' : Nat} {i1 : Int64} {i3 : Int32} (gi0 : (Rr r d) i0 i0') : ∀ s s', (Rp Eq (Em r d W0 H0 al)) s s' → Sm (Ru (Rp Eq (Em r d W0 H0 al)) (Em r d W0 H0 al)) (f_X11_findAll_b18 i0 i1 i3 s) (f_X11_findAll_b18 i0' i1 i3 s') := by
  rintro ⟨y4, hh⟩ ⟨_, hh'⟩ ⟨rfl, ghh⟩
  dsimp only [f_X11_findAll_b18]
  refine Sm.b (Sm.gr ghh gi0) ?_
  rintro k3 k3' gk3
  refine Sm.b (Sm.ai ghh gk3) ?_
  rintro x4 _ rfl
  refine Sm.b (Sm.gi ghh gi0) ?_
  rintro x5 _ rfl
  refine Sm.i ?_ ?_
  · exact Sm.s (Ru.r ghh)
  · refine Sm.b (Sm.gr ghh gi0) ?_
    rintro k6 k6' gk6
    refine Sm.b (Sm.gi ghh gi0) ?_
    rintro x7 _ rfl
    refine Sm.b (Sm.r) ?_
    intro _ _ _
    refine Sm.b (Sm.ai ghh gk6) ?_
    rintro x8 _ rfl
    refine Sm.b (Sm.gr ghh gi0) ?_
    rintro k9 k9' gk9
    refine Sm.b (Sm.gi ghh gi0) ?_
    rintro x10 _ rfl
    refine Sm.b (Sm.r) ?_
    intro _ _ _
    refine Sm.b (R := (Rp Eq (Em r d W0 H0 al))) ?_ ?_
    · refine Sm.i ?_ ?_
      · refine Sm.b (Sm.gi ghh gi0) ?_
        rintro x11 _ rfl
        refine Sm.b (Sm.r) ?_
        intro _ _ _
        refine Sm.b (Sm.is ghh gi0) ?_
        intro _ _ _
        refine Sm.b (y_X11_stepped gi0 ghh) ?_
        rintro ⟨v12a, v12b⟩ ⟨_, v12b'⟩ ⟨rfl, gv12b⟩
        exact Sm.s (Rp.i rfl gv12b)
      · exact Sm.s (Rp.i rfl ghh)
    · rintro ⟨p15a, p15b⟩ ⟨_, p15b'⟩ ⟨rfl, gp15b⟩
      refine Sm.b (Sm.sl gp15b gk9) ?_
      rintro w16 w16' gw16
      refine Sm.l ?_
      exact Sm.s (Ru.l (Rp.i rfl gw16))
set_option maxHeartbeats 2000000 in
theorem y_X11_findAll_b166 {i0 i0' : Nat} {i1 : Int64} {i3 : Int32} {i4 : Int32} {i5 : Int32} {i6 : Int64} {i8 : Int32} {hh hh' : tq_H} (gi0 : (Rr r d) i0 i0') (ghh : (Em r d W0 H0 al) hh hh') : ∀ s s', (Rp Eq Eq) s s' → Sm (Ru (Rp Eq Eq) Eq) (f_X11_findAll_b166 i0 i1 i3 i4 i5 i6 i8 hh s) (f_X11_findAll_b166 i0' i1 i3 i4 i5 i6 i8 hh' s') := by
  rintro ⟨y9, y11⟩ ⟨_, _⟩ ⟨rfl, rfl⟩
  dsimp only [f_X11_findAll_b166]
  refine Sm.b (Sm.gi ghh gi0) ?_
  rintro x27 _ rfl
  refine Sm.i ?_ ?_
  · exact Sm.s (Ru.r rfl)
  · refine Sm.b (Sm.gr ghh gi0) ?_
    rintro k28 k28' gk28
    refine Sm.b (Sm.ai ghh gk28) ?_
    rintro x29 _ rfl
    refine Sm.b (R := Eq) ?_ ?_
    · refine Sm.i ?_ ?_
      · refine Sm.b (Sm.gr ghh gi0) ?_
        rintro k30 k30' gk30
        refine Sm.b (Sm.gr ghh gi0) ?_
        rintro k31 k31' gk31
        refine Sm.b (Sm.ai ghh gk31) ?_
        rintro x32 _ rfl
        refine Sm.b (Sm.aj ghh gk30) ?_
        rintro x33 _ rfl
        exact Sm.s rfl
      · exact Sm.s rfl
    · rintro p34 _ rfl
      refine Sm.l ?_
      refine Sm.l ?_
      exact Sm.s (Ru.l (Rp.i rfl rfl))
set_option maxHeartbeats 2000000 in
theorem y_X11_findAll_b149 {i0 i0' : Nat} {i1 : Int64} {i3 : Int32} {i4 : Int32} {i5 : Int32} {hh hh' : tq_H} (gi0 : (Rr r d) i0 i0') (ghh : (Em r d W0 H0 al) hh hh') : ∀ s s', (Rp Eq Eq) s s' → Sm (Ru (Rp Eq Eq) Eq) (f_X11_findAll_b149 i0 i1 i3 i4 i5 hh s) (f_X11_findAll_b149 i0' i1 i3 i4 i5 hh' s') := by
  rintro ⟨y6, y8⟩ ⟨_, _⟩ ⟨rfl, rfl⟩
  dsimp only [f_X11_findAll_b149]
  refine Sm.b (Sm.gr ghh gi0) ?_
  rintro k25 k25' gk25
  refine Sm.b (Sm.ai ghh gk25) ?_
  rintro x26 _ rfl
  refine Sm.i ?_ ?_
  · exact Sm.s (Ru.r rfl)
  · refine Sm.b (Sm.w (y_X11_findAll_b166 gi0 ghh) tq_N (Rp.i rfl rfl)) ?_
    rintro o37 _ rfl
    refine Sm.l ?_
    exact Sm.s (Ru.l (Rp.i rfl rfl))
set_option maxHeartbeats 2000000 in
theorem y_X11_findAll_b107 {i0 i0' : Nat} {i1 : Int64} {i3 : Int32} (gi0 : (Rr r d) i0 i0') : ∀ s s', (Rp Eq (Em r d W0 H0 al)) s s' → Sm (Ru (Rp Eq (Em r d W0 H0 al)) (Em r d W0 H0 al)) (f_X11_findAll_b107 i0 i1 i3 s) (f_X11_findAll_b107 i0' i1 i3 s') := by
  rintro ⟨y4, hh⟩ ⟨_, hh'⟩ ⟨rfl, ghh⟩
  dsimp only [f_X11_findAll_b107]
  refine Sm.b (Sm.gi ghh gi0) ?_
  rintro x21 _ rfl
  refine Sm.i ?_ ?_
  · exact Sm.s (Ru.r ghh)
  · refine Sm.b (Sm.gr ghh gi0) ?_
    rintro k22 k22' gk22
    refine Sm.b (Sm.ai ghh gk22) ?_
    rintro x23 _ rfl
    refine Sm.l ?_
    refine Sm.b (Sm.w (y_X11_findAll_b149 gi0 ghh) tq_N (Rp.i rfl rfl)) ?_
    rintro o39 _ rfl
    refine Sm.b (Sm.gr ghh gi0) ?_
    rintro k40 k40' gk40
    refine Sm.b (Sm.sl ghh gk40) ?_
    rintro w41 w41' gw41
    refine Sm.l ?_
    exact Sm.s (Ru.l (Rp.i rfl gw41))
set_option maxHeartbeats 2000000 in
theorem y_X11_findAll_b7 {i0 i0' : Nat} {i1 : Int64} (gi0 : (Rr r d) i0 i0') : ∀ s s', (Rp Eq (Em r d W0 H0 al)) s s' → Sm (Ru (Rp Eq (Em r d W0 H0 al)) (Em r d W0 H0 al)) (f_X11_findAll_b7 i0 i1 s) (f_X11_findAll_b7 i0' i1 s') := by
  rintro ⟨y3, hh⟩ ⟨_, hh'⟩ ⟨rfl, ghh⟩
  dsimp only [f_X11_findAll_b7]
  refine Sm.b (Sm.gi ghh gi0) ?_
  rintro x2 _ rfl
  refine Sm.i ?_ ?_
  · exact Sm.s (Ru.r ghh)
  · refine Sm.b (Sm.w (y_X11_findAll_b18 gi0) tq_N (Rp.i rfl ghh)) ?_
    rintro o20 o20' go20
    refine Sm.b (Sm.w (y_X11_findAll_b107 gi0) tq_N (Rp.i rfl go20)) ?_
    rintro o43 o43' go43
    refine Sm.l ?_
    exact Sm.s (Ru.l (Rp.i rfl go43))
set_option maxHeartbeats 2000000 in
theorem y_X11_findAll {t t' : Nat} {a1 : Int64} {h h' : tq_H} (gt : (Rr r d) t t') (gh : (Em r d W0 H0 al) h h') : Sm (Em r d W0 H0 al) (f_X11_findAll t a1 h) (f_X11_findAll t' a1 h') := by
  unfold f_X11_findAll
  refine Sm.b (Sm.pf gh gt (okV_l _)) ?_
  rintro w1 w1' gw1
  refine Sm.b (Sm.w (y_X11_findAll_b7 gt) tq_N (Rp.i rfl gw1)) ?_
  rintro o45 o45' go45
  exact Sm.s go45
set_option maxHeartbeats 2000000 in
theorem y_X11_bits_b4 {hh hh' : tq_H} (ghh : (Em r d W0 H0 al) hh hh') : ∀ s s', (Rp Eq Eq) s s' → Sm (Ru (Rp Eq Eq) Eq) (f_X11_bits_b4 hh s) (f_X11_bits_b4 hh' s') := by
  rintro ⟨y2, y3⟩ ⟨_, _⟩ ⟨rfl, rfl⟩
  dsimp only [f_X11_bits_b4]
  refine Sm.i ?_ ?_
  · exact Sm.s (Ru.r rfl)
  · refine Sm.l ?_
    refine Sm.l ?_
    exact Sm.s (Ru.l (Rp.i rfl rfl))
set_option maxHeartbeats 2000000 in
theorem y_X11_bits {a0 : Int64} {h h' : tq_H} (gh : (Em r d W0 H0 al) h h') : Sm Eq (f_X11_bits a0 h) (f_X11_bits a0 h') := by
  unfold f_X11_bits
  refine Sm.b (Sm.w (y_X11_bits_b4 gh) tq_N (Rp.i rfl rfl)) ?_
  rintro o3 _ rfl
  exact Sm.s rfl
set_option maxHeartbeats 2000000 in
theorem y_X11_lookAtViews_b10 {i0 i0' : Nat} (gi0 : (Rr r d) i0 i0') : ∀ s s', (Rp Eq (Em r d W0 H0 al)) s s' → Sm (Ru (Rp Eq (Em r d W0 H0 al)) (Em r d W0 H0 al)) (f_X11_lookAtViews_b10 i0 s) (f_X11_lookAtViews_b10 i0' s') := by
  rintro ⟨y1, hh⟩ ⟨_, hh'⟩ ⟨rfl, ghh⟩
  dsimp only [f_X11_lookAtViews_b10]
  refine Sm.b (Sm.gi ghh gi0) ?_
  rintro x5 _ rfl
  refine Sm.i ?_ ?_
  · exact Sm.s (Ru.r ghh)
  · refine Sm.b (Sm.gr ghh gi0) ?_
    rintro k6 k6' gk6
    refine Sm.b (Sm.gr ghh gi0) ?_
    rintro k7 k7' gk7
    refine Sm.b (Sm.ai ghh gk7) ?_
    rintro x8 _ rfl
    refine Sm.b (Sm.aj ghh gk6) ?_
    rintro x9 _ rfl
    refine Sm.b (Sm.gr ghh gi0) ?_
    rintro k10 k10' gk10
    refine Sm.b (Sm.gr ghh gi0) ?_
    rintro k11 k11' gk11
    refine Sm.b (Sm.aj ghh gk11) ?_
    rintro x12 _ rfl
    refine Sm.b (y_X11_bits ghh) ?_
    rintro v13 _ rfl
    refine Sm.b (Sm.si ghh gk10) ?_
    rintro w14 w14' gw14
    refine Sm.b (Sm.gr gw14 gi0) ?_
    rintro k15 k15' gk15
    refine Sm.b (Sm.sl gw14 gk15) ?_
    rintro w16 w16' gw16
    refine Sm.l ?_
    exact Sm.s (Ru.l (Rp.i rfl gw16))
set_option maxHeartbeats 2000000 in
theorem y_X11_lookAtViews {t t' : Nat} {h h' : tq_H} (gt : (Rr r d) t t') (gh : (Em r d W0 H0 al) h h') : Sm (Em r d W0 H0 al) (f_X11_lookAtViews t h) (f_X11_lookAtViews t' h') := by
  unfold f_X11_lookAtViews
  refine Sm.b (Sm.is gh gt) ?_
  intro _ _ _
  refine Sm.b (y_X11_all gt gh) ?_
  rintro v1 _ rfl
  refine Sm.b (Sm.is gh gt) ?_
  intro _ _ _
  refine Sm.b (y_X11_findAll gt gh) ?_
  rintro v3 v3' gv3
  refine Sm.b (Sm.w (y_X11_lookAtViews_b10 gt) tq_N (Rp.i rfl gv3)) ?_
  rintro o18 o18' go18
  exact Sm.s go18
set_option maxHeartbeats 2000000 in
theorem y_X11_apply_b63 {i0 i0' : Nat} {i1 : Int32} {i2 : Int64} (gi0 : (Rr r d) i0 i0') : ∀ s s', (Rp Eq (Em r d W0 H0 al)) s s' → Sm (Ru (Rp Eq (Em r d W0 H0 al)) (Em r d W0 H0 al)) (f_X11_apply_b63 i0 i1 i2 s) (f_X11_apply_b63 i0' i1 i2 s') := by
  rintro ⟨y5, hh⟩ ⟨_, hh'⟩ ⟨rfl, ghh⟩
  dsimp only [f_X11_apply_b63]
  refine Sm.b (Sm.gi ghh gi0) ?_
  rintro x17 _ rfl
  refine Sm.i ?_ ?_
  · exact Sm.s (Ru.r ghh)
  · refine Sm.b (Sm.gr ghh gi0) ?_
    rintro k18 k18' gk18
    refine Sm.b (Sm.gr ghh gi0) ?_
    rintro k19 k19' gk19
    refine Sm.b (Sm.az ghh gk19) ?_
    rintro x20 _ rfl
    refine Sm.b (R := Eq) ?_ ?_
    · refine Sm.i ?_ ?_
      · refine Sm.i ?_ ?_
        · exact Sm.s rfl
        · refine Sm.b (Sm.is ghh gi0) ?_
          intro _ _ _
          refine Sm.b (y_X11_hangs gi0 ghh) ?_
          rintro v23 _ rfl
          refine Sm.i ?_ ?_
          · exact Sm.s rfl
          · exact Sm.s rfl
      · refine Sm.b (Sm.is ghh gi0) ?_
        intro _ _ _
        refine Sm.b (y_X11_hangs gi0 ghh) ?_
        rintro v21 _ rfl
        refine Sm.i ?_ ?_
        · exact Sm.s rfl
        · exact Sm.s rfl
    · rintro p25 _ rfl
      refine Sm.b (Sm.sz ghh gk18) ?_
      rintro w26 w26' gw26
      refine Sm.l ?_
      exact Sm.s (Ru.l (Rp.i rfl gw26))
set_option maxHeartbeats 2000000 in
theorem y_X11_apply {t t' : Nat} {h h' : tq_H} (gt : (Rr r d) t t') (gh : (Em r d W0 H0 al) h h') : Sm (Rp Eq (Em r d W0 H0 al)) (f_X11_apply t h) (f_X11_apply t' h') := by
  unfold f_X11_apply
  refine Sm.b (Sm.is gh gt) ?_
  intro _ _ _
  refine Sm.b (y_X11_isAtOdds gt gh) ?_
  rintro v1 _ rfl
  refine Sm.b (R := Eq) ?_ ?_
  · refine Sm.i ?_ ?_
    · refine Sm.b (Sm.is gh gt) ?_
      intro _ _ _
      refine Sm.b (y_X11_madeBehind gt gh) ?_
      rintro v3 _ rfl
      refine Sm.i ?_ ?_
      · exact Sm.s rfl
      · exact Sm.s rfl
    · exact Sm.s rfl
  · rintro p5 _ rfl
    refine Sm.b (Sm.is gh gt) ?_
    intro _ _ _
    refine Sm.b (y_X11_refused gt gh) ?_
    rintro ⟨v6a, v6b⟩ ⟨_, v6b'⟩ ⟨rfl, gv6b⟩
    refine Sm.i ?_ ?_
    · refine Sm.b (Sm.is gv6b gt) ?_
      intro _ _ _
      refine Sm.b (y_X11_remember gt gv6b) ?_
      rintro v8 v8' gv8
      refine Sm.b (Sm.gi gv8 gt) ?_
      rintro x10 _ rfl
      refine Sm.b (Sm.is gv8 gt) ?_
      intro _ _ _
      refine Sm.b (y_X11_all gt gv8) ?_
      rintro v11 _ rfl
      refine Sm.b (Sm.is gv8 gt) ?_
      intro _ _ _
      refine Sm.b (y_X11_perform gt gv8) ?_
      rintro v13 v13' gv13
      refine Sm.b (Sm.is gv13 gt) ?_
      intro _ _ _
      refine Sm.b (y_X11_isSound gt gv13) ?_
      rintro v15 _ rfl
      refine Sm.b (R := (Rp Eq (Em r d W0 H0 al))) ?_ ?_
      · refine Sm.i ?_ ?_
        · exact Sm.s (Rp.i rfl gv13)
        · refine Sm.b (Sm.w (y_X11_apply_b63 gt) tq_N (Rp.i rfl gv13)) ?_
          rintro o28 o28' go28
          refine Sm.b (Sm.is go28 gt) ?_
          intro _ _ _
          refine Sm.b (y_X11_arrange gt go28) ?_
          rintro v29 v29' gv29
          refine Sm.b (Sm.is gv29 gt) ?_
          intro _ _ _
          refine Sm.b (y_X11_hasTwice gt gv29) ?_
          rintro v31 _ rfl
          refine Sm.b (R := (Rp Eq (Em r d W0 H0 al))) ?_ ?_
          · refine Sm.i ?_ ?_
            · refine Sm.b (Sm.gi gv29 gt) ?_
              rintro x33 _ rfl
              refine Sm.i ?_ ?_
              · exact Sm.s (Rp.i rfl gv29)
              · refine Sm.b (Sm.is gv29 gt) ?_
                intro _ _ _
                refine Sm.b (y_X11_isRight gt gv29) ?_
                rintro ⟨v34a, v34b⟩ ⟨_, v34b'⟩ ⟨rfl, gv34b⟩
                refine Sm.i ?_ ?_
                · exact Sm.s (Rp.i rfl gv34b)
                · exact Sm.s (Rp.i rfl gv34b)
            · exact Sm.s (Rp.i rfl gv29)
          · rintro ⟨p36a, p36b⟩ ⟨_, p36b'⟩ ⟨rfl, gp36b⟩
            exact Sm.s (Rp.i rfl gp36b)
      · rintro ⟨p37a, p37b⟩ ⟨_, p37b'⟩ ⟨rfl, gp37b⟩
        refine Sm.i ?_ ?_
        · refine Sm.b (Sm.pf gp37b gt (okV_i _)) ?_
          rintro w46 w46' gw46
          refine Sm.b (Sm.is gw46 gt) ?_
          intro _ _ _
          refine Sm.b (y_X11_comeBack gt gw46) ?_
          rintro v47 v47' gv47
          refine Sm.b (Sm.is gv47 gt) ?_
          intro _ _ _
          refine Sm.b (y_X11_arrange gt gv47) ?_
          rintro v49 v49' gv49
          refine Sm.b (Sm.is gv49 gt) ?_
          intro _ _ _
          refine Sm.b (y_X11_refused gt gv49) ?_
          rintro ⟨v51a, v51b⟩ ⟨_, v51b'⟩ ⟨rfl, gv51b⟩
          exact Sm.s (Rp.i rfl gv51b)
        · refine Sm.b (Sm.is gp37b gt) ?_
          intro _ _ _
          refine Sm.b (y_X11_markNew gt gp37b) ?_
          rintro v38 v38' gv38
          refine Sm.b (Sm.pf gv38 gt (okV_i _)) ?_
          rintro w40 w40' gw40
          refine Sm.b (Sm.is gw40 gt) ?_
          intro _ _ _
          refine Sm.b (y_X11_number gt gw40) ?_
          rintro v41 v41' gv41
          refine Sm.b (Sm.is gv41 gt) ?_
          intro _ _ _
          refine Sm.b (y_X11_lookAtViews gt gv41) ?_
          rintro v43 v43' gv43
          refine Sm.b (Sm.gi gv43 gt) ?_
          rintro x45 _ rfl
          exact Sm.s (Rp.i rfl gv43)
    · exact Sm.s (Rp.i rfl gv6b)
set_option maxHeartbeats 2000000 in
theorem y_X11_forget {t t' : Nat} {h h' : tq_H} (gt : (Rr r d) t t') (gh : (Em r d W0 H0 al) h h') : Sm (Rp Eq (Em r d W0 H0 al)) (f_X11_forget t h) (f_X11_forget t' h') := by
  unfold f_X11_forget
  refine Sm.b (Sm.gi gh gt) ?_
  rintro x1 _ rfl
  refine Sm.b (Sm.pf gh gt (okV_i _)) ?_
  rintro w2 w2' gw2
  refine Sm.b (Sm.is gw2 gt) ?_
  intro _ _ _
  refine Sm.b (y_X11_fine gt gw2) ?_
  rintro ⟨v3a, v3b⟩ ⟨_, v3b'⟩ ⟨rfl, gv3b⟩
  exact Sm.s (Rp.i rfl gv3b)
set_option maxHeartbeats 2000000 in
theorem y_X11_made {t t' : Nat} {h h' : tq_H} (gt : (Rr r d) t t') (gh : (Em r d W0 H0 al) h h') : Sm (Rp Eq (Em r d W0 H0 al)) (f_X11_made t h) (f_X11_made t' h') := by
  unfold f_X11_made
  refine Sm.b (Sm.gi gh gt) ?_
  rintro x1 _ rfl
  refine Sm.b (Sm.is gh gt) ?_
  intro _ _ _
  refine Sm.b (y_X11_fine gt gh) ?_
  rintro ⟨v2a, v2b⟩ ⟨_, v2b'⟩ ⟨rfl, gv2b⟩
  exact Sm.s (Rp.i rfl gv2b)
set_option maxHeartbeats 2000000 in
theorem y_X11_nodes {t t' : Nat} {h h' : tq_H} (gt : (Rr r d) t t') (gh : (Em r d W0 H0 al) h h') : Sm (Rp Eq (Em r d W0 H0 al)) (f_X11_nodes t h) (f_X11_nodes t' h') := by
  unfold f_X11_nodes
  refine Sm.b (Sm.gi gh gt) ?_
  rintro x1 _ rfl
  refine Sm.b (Sm.is gh gt) ?_
  intro _ _ _
  refine Sm.b (y_X11_fine gt gh) ?_
  rintro ⟨v2a, v2b⟩ ⟨_, v2b'⟩ ⟨rfl, gv2b⟩
  exact Sm.s (Rp.i rfl gv2b)
set_option maxHeartbeats 2000000 in
theorem y_X11_isThere {t t' : Nat} {a1 : Int32} {h h' : tq_H} (gt : (Rr r d) t t') (gh : (Em r d W0 H0 al) h h') : Sm (Rp Eq (Em r d W0 H0 al)) (f_X11_isThere t a1 h) (f_X11_isThere t' a1 h') := by
  unfold f_X11_isThere
  refine Sm.b (Sm.pf gh gt (okV_i _)) ?_
  rintro w1 w1' gw1
  refine Sm.b (Sm.is gw1 gt) ?_
  intro _ _ _
  refine Sm.b (y_X11_isNode gt gw1) ?_
  rintro v2 _ rfl
  refine Sm.b (Sm.r) ?_
  rintro z4 _ rfl
  exact Sm.s (Rp.i rfl gw1)
set_option maxHeartbeats 2000000 in
theorem y_X11_noNode {t t' : Nat} {a1 : Int32} {h h' : tq_H} (gt : (Rr r d) t t') (gh : (Em r d W0 H0 al) h h') : Sm (Rp Eq (Em r d W0 H0 al)) (f_X11_noNode t a1 h) (f_X11_noNode t' a1 h') := by
  unfold f_X11_noNode
  refine Sm.b (Sm.is gh gt) ?_
  intro _ _ _
  refine Sm.b (y_X11_isNode gt gh) ?_
  rintro v1 _ rfl
  refine Sm.l ?_
  refine Sm.b (Sm.is gh gt) ?_
  intro _ _ _
  refine Sm.b (y_X11_refused gt gh) ?_
  rintro ⟨v4a, v4b⟩ ⟨_, v4b'⟩ ⟨rfl, gv4b⟩
  refine Sm.b (Sm.r) ?_
  rintro z6 _ rfl
  exact Sm.s (Rp.i rfl gv4b)
set_option maxHeartbeats 2000000 in
theorem y_X11_kind {t t' : Nat} {a1 : Int32} {h h' : tq_H} (gt : (Rr r d) t t') (gh : (Em r d W0 H0 al) h h') : Sm (Rp Eq (Em r d W0 H0 al)) (f_X11_kind t a1 h) (f_X11_kind t' a1 h') := by
  unfold f_X11_kind
  refine Sm.b (Sm.is gh gt) ?_
  intro _ _ _
  refine Sm.b (y_X11_noNode gt gh) ?_
  rintro ⟨v1a, v1b⟩ ⟨_, v1b'⟩ ⟨rfl, gv1b⟩
  refine Sm.b (R := Eq) ?_ ?_
  · refine Sm.i ?_ ?_
    · refine Sm.b (Sm.gr gv1b gt) ?_
      rintro k3 k3' gk3
      refine Sm.b (Sm.ai gv1b gk3) ?_
      rintro x4 _ rfl
      exact Sm.s rfl
    · exact Sm.s rfl
  · rintro p5 _ rfl
    exact Sm.s (Rp.i rfl gv1b)
set_option maxHeartbeats 2000000 in
theorem y_X11_name {t t' : Nat} {a1 : Int32} {h h' : tq_H} (gt : (Rr r d) t t') (gh : (Em r d W0 H0 al) h h') : Sm (Rp Eq (Em r d W0 H0 al)) (f_X11_name t a1 h) (f_X11_name t' a1 h') := by
  unfold f_X11_name
  refine Sm.b (Sm.is gh gt) ?_
  intro _ _ _
  refine Sm.b (y_X11_noNode gt gh) ?_
  rintro ⟨v1a, v1b⟩ ⟨_, v1b'⟩ ⟨rfl, gv1b⟩
  refine Sm.b (R := Eq) ?_ ?_
  · refine Sm.i ?_ ?_
    · refine Sm.b (Sm.gr gv1b gt) ?_
      rintro k3 k3' gk3
      refine Sm.b (Sm.ai gv1b gk3) ?_
      rintro x4 _ rfl
      refine Sm.i ?_ ?_
      · exact Sm.s rfl
      · refine Sm.b (Sm.gr gv1b gt) ?_
        rintro k5 k5' gk5
        refine Sm.b (Sm.ai gv1b gk5) ?_
        rintro x6 _ rfl
        exact Sm.s rfl
    · exact Sm.s rfl
  · rintro p7 _ rfl
    exact Sm.s (Rp.i rfl gv1b)
set_option maxHeartbeats 2000000 in
theorem y_X11_value {t t' : Nat} {a1 : Int32} {h h' : tq_H} (gt : (Rr r d) t t') (gh : (Em r d W0 H0 al) h h') : Sm (Rp Eq (Em r d W0 H0 al)) (f_X11_value t a1 h) (f_X11_value t' a1 h') := by
  unfold f_X11_value
  refine Sm.b (Sm.is gh gt) ?_
  intro _ _ _
  refine Sm.b (y_X11_noNode gt gh) ?_
  rintro ⟨v1a, v1b⟩ ⟨_, v1b'⟩ ⟨rfl, gv1b⟩
  refine Sm.b (R := Eq) ?_ ?_
  · refine Sm.i ?_ ?_
    · refine Sm.b (Sm.is gv1b gt) ?_
      intro _ _ _
      refine Sm.b (y_X11_all gt gv1b) ?_
      rintro v3 _ rfl
      refine Sm.b (Sm.is gv1b gt) ?_
      intro _ _ _
      refine Sm.b (y_X11_valueOf gt gv1b) ?_
      rintro v5 _ rfl
      exact Sm.s rfl
    · exact Sm.s rfl
  · rintro p7 _ rfl
    exact Sm.s (Rp.i rfl gv1b)
set_option maxHeartbeats 2000000 in
theorem y_X11_parent {t t' : Nat} {a1 : Int32} {h h' : tq_H} (gt : (Rr r d) t t') (gh : (Em r d W0 H0 al) h h') : Sm (Rp Eq (Em r d W0 H0 al)) (f_X11_parent t a1 h) (f_X11_parent t' a1 h') := by
  unfold f_X11_parent
  refine Sm.b (Sm.is gh gt) ?_
  intro _ _ _
  refine Sm.b (y_X11_noNode gt gh) ?_
  rintro ⟨v1a, v1b⟩ ⟨_, v1b'⟩ ⟨rfl, gv1b⟩
  refine Sm.b (R := Eq) ?_ ?_
  · refine Sm.i ?_ ?_
    · refine Sm.b (Sm.gr gv1b gt) ?_
      rintro k3 k3' gk3
      refine Sm.b (Sm.ai gv1b gk3) ?_
      rintro x4 _ rfl
      exact Sm.s rfl
    · exact Sm.s rfl
  · rintro p5 _ rfl
    exact Sm.s (Rp.i rfl gv1b)
set_option maxHeartbeats 2000000 in
theorem y_X11_child {t t' : Nat} {a1 : Int32} {a2 : Int32} {h h' : tq_H} (gt : (Rr r d) t t') (gh : (Em r d W0 H0 al) h h') : Sm (Rp Eq (Em r d W0 H0 al)) (f_X11_child t a1 a2 h) (f_X11_child t' a1 a2 h') := by
  unfold f_X11_child
  refine Sm.b (Sm.is gh gt) ?_
  intro _ _ _
  refine Sm.b (y_X11_isNode gt gh) ?_
  rintro v1 _ rfl
  refine Sm.l ?_
  refine Sm.b (Sm.is gh gt) ?_
  intro _ _ _
  refine Sm.b (y_X11_refused gt gh) ?_
  rintro ⟨v4a, v4b⟩ ⟨_, v4b'⟩ ⟨rfl, gv4b⟩
  refine Sm.b (R := Eq) ?_ ?_
  · refine Sm.i ?_ ?_
    · refine Sm.b (Sm.is gv4b gt) ?_
      intro _ _ _
      refine Sm.b (y_X11_childAt gt gv4b) ?_
      rintro v6 _ rfl
      exact Sm.s rfl
    · exact Sm.s rfl
  · rintro p8 _ rfl
    exact Sm.s (Rp.i rfl gv4b)
set_option maxHeartbeats 2000000 in
theorem y_X11_space {t t' : Nat} {a1 : Int32} {h h' : tq_H} (gt : (Rr r d) t t') (gh : (Em r d W0 H0 al) h h') : Sm (Rp Eq (Em r d W0 H0 al)) (f_X11_space t a1 h) (f_X11_space t' a1 h') := by
  unfold f_X11_space
  refine Sm.b (Sm.is gh gt) ?_
  intro _ _ _
  refine Sm.b (y_X11_noNode gt gh) ?_
  rintro ⟨v1a, v1b⟩ ⟨_, v1b'⟩ ⟨rfl, gv1b⟩
  refine Sm.b (R := Eq) ?_ ?_
  · refine Sm.i ?_ ?_
    · refine Sm.b (Sm.gr gv1b gt) ?_
      rintro k3 k3' gk3
      refine Sm.b (Sm.ai gv1b gk3) ?_
      rintro x4 _ rfl
      refine Sm.i ?_ ?_
      · refine Sm.b (Sm.is gv1b gt) ?_
        intro _ _ _
        refine Sm.b (y_X11_spaceOf gt gv1b) ?_
        rintro v5 _ rfl
        exact Sm.s rfl
      · exact Sm.s rfl
    · exact Sm.s rfl
  · rintro p7 _ rfl
    exact Sm.s (Rp.i rfl gv1b)
set_option maxHeartbeats 2000000 in
theorem y_X11_number_ {t t' : Nat} {a1 : Int32} {h h' : tq_H} (gt : (Rr r d) t t') (gh : (Em r d W0 H0 al) h h') : Sm (Rp Eq (Em r d W0 H0 al)) (f_X11_number_ t a1 h) (f_X11_number_ t' a1 h') := by
  unfold f_X11_number_
  refine Sm.b (Sm.is gh gt) ?_
  intro _ _ _
  refine Sm.b (y_X11_noNode gt gh) ?_
  rintro ⟨v1a, v1b⟩ ⟨_, v1b'⟩ ⟨rfl, gv1b⟩
  refine Sm.b (R := Eq) ?_ ?_
  · refine Sm.i ?_ ?_
    · refine Sm.b (Sm.gr gv1b gt) ?_
      rintro k3 k3' gk3
      refine Sm.b (Sm.ai gv1b gk3) ?_
      rintro x4 _ rfl
      refine Sm.i ?_ ?_
      · exact Sm.s rfl
      · refine Sm.b (Sm.gr gv1b gt) ?_
        rintro k5 k5' gk5
        refine Sm.b (Sm.ai gv1b gk5) ?_
        rintro x6 _ rfl
        exact Sm.s rfl
    · exact Sm.s rfl
  · rintro p7 _ rfl
    exact Sm.s (Rp.i rfl gv1b)
set_option maxHeartbeats 2000000 in
theorem y_X11_numbered {t t' : Nat} {h h' : tq_H} (gt : (Rr r d) t t') (gh : (Em r d W0 H0 al) h h') : Sm (Rp Eq (Em r d W0 H0 al)) (f_X11_numbered t h) (f_X11_numbered t' h') := by
  unfold f_X11_numbered
  refine Sm.b (Sm.gi gh gt) ?_
  rintro x1 _ rfl
  refine Sm.b (Sm.is gh gt) ?_
  intro _ _ _
  refine Sm.b (y_X11_fine gt gh) ?_
  rintro ⟨v2a, v2b⟩ ⟨_, v2b'⟩ ⟨rfl, gv2b⟩
  exact Sm.s (Rp.i rfl gv2b)
set_option maxHeartbeats 2000000 in
theorem y_X11_isPath {t t' : Nat} {a1 : Int32} {h h' : tq_H} (gt : (Rr r d) t t') (gh : (Em r d W0 H0 al) h h') : Sm Eq (f_X11_isPath t a1 h) (f_X11_isPath t' a1 h') := by
  unfold f_X11_isPath
  refine Sm.b (Sm.gi gh gt) ?_
  rintro x1 _ rfl
  refine Sm.b (y_X11_in gh) ?_
  rintro v2 _ rfl
  refine Sm.b (Sm.r) ?_
  rintro z3 _ rfl
  exact Sm.s rfl
set_option maxHeartbeats 2000000 in
theorem y_X11_path {t t' : Nat} {h h' : tq_H} (gt : (Rr r d) t t') (gh : (Em r d W0 H0 al) h h') : Sm (Rp Eq (Em r d W0 H0 al)) (f_X11_path t h) (f_X11_path t' h') := by
  unfold f_X11_path
  refine Sm.b (Sm.gi gh gt) ?_
  rintro x1 _ rfl
  refine Sm.l ?_
  refine Sm.b (Sm.is gh gt) ?_
  intro _ _ _
  refine Sm.b (y_X11_refused gt gh) ?_
  rintro ⟨v3a, v3b⟩ ⟨_, v3b'⟩ ⟨rfl, gv3b⟩
  refine Sm.i ?_ ?_
  · refine Sm.b (Sm.gr gv3b gt) ?_
    rintro k5 k5' gk5
    refine Sm.b (Sm.gi gv3b gt) ?_
    rintro x6 _ rfl
    refine Sm.b (Sm.si gv3b gk5) ?_
    rintro w7 w7' gw7
    refine Sm.b (Sm.gi gw7 gt) ?_
    rintro x8 _ rfl
    refine Sm.b (Sm.pf gw7 gt (okV_i _)) ?_
    rintro w9 w9' gw9
    refine Sm.b (Sm.gi gw9 gt) ?_
    rintro x10 _ rfl
    exact Sm.s (Rp.i rfl gw9)
  · exact Sm.s (Rp.i rfl gv3b)
set_option maxHeartbeats 2000000 in
theorem y_X11_hasView_b4 {i0 i0' : Nat} {i1 : Int32} {hh hh' : tq_H} (gi0 : (Rr r d) i0 i0') (ghh : (Em r d W0 H0 al) hh hh') : ∀ s s', (Rp Eq Eq) s s' → Sm (Ru (Rp Eq Eq) Eq) (f_X11_hasView_b4 i0 i1 hh s) (f_X11_hasView_b4 i0' i1 hh' s') := by
  rintro ⟨y2, y3⟩ ⟨_, _⟩ ⟨rfl, rfl⟩
  dsimp only [f_X11_hasView_b4]
  refine Sm.b (Sm.gi ghh gi0) ?_
  rintro x1 _ rfl
  refine Sm.i ?_ ?_
  · exact Sm.s (Ru.r rfl)
  · refine Sm.b (R := Eq) ?_ ?_
    · refine Sm.i ?_ ?_
      · refine Sm.b (Sm.gr ghh gi0) ?_
        rintro k2 k2' gk2
        refine Sm.b (Sm.ai ghh gk2) ?_
        rintro x3 _ rfl
        refine Sm.i ?_ ?_
        · exact Sm.s rfl
        · exact Sm.s rfl
      · exact Sm.s rfl
    · rintro p4 _ rfl
      refine Sm.l ?_
      exact Sm.s (Ru.l (Rp.i rfl rfl))
set_option maxHeartbeats 2000000 in
theorem y_X11_hasView {t t' : Nat} {a1 : Int32} {h h' : tq_H} (gt : (Rr r d) t t') (gh : (Em r d W0 H0 al) h h') : Sm Eq (f_X11_hasView t a1 h) (f_X11_hasView t' a1 h') := by
  unfold f_X11_hasView
  refine Sm.b (Sm.w (y_X11_hasView_b4 gt gh) tq_N (Rp.i rfl rfl)) ?_
  rintro o6 _ rfl
  refine Sm.b (Sm.r) ?_
  rintro z7 _ rfl
  exact Sm.s rfl
set_option maxHeartbeats 2000000 in
theorem y_X11_isOpen {t t' : Nat} {a1 : Int32} {h h' : tq_H} (gt : (Rr r d) t t') (gh : (Em r d W0 H0 al) h h') : Sm Eq (f_X11_isOpen t a1 h) (f_X11_isOpen t' a1 h') := by
  unfold f_X11_isOpen
  refine Sm.b (Sm.gi gh gt) ?_
  rintro x1 _ rfl
  refine Sm.b (R := Eq) ?_ ?_
  · refine Sm.i ?_ ?_
    · refine Sm.b (Sm.is gh gt) ?_
      intro _ _ _
      refine Sm.b (y_X11_hasView gt gh) ?_
      rintro v2 _ rfl
      refine Sm.i ?_ ?_
      · exact Sm.s rfl
      · exact Sm.s rfl
    · exact Sm.s rfl
  · rintro p4 _ rfl
    refine Sm.b (Sm.r) ?_
    rintro z5 _ rfl
    exact Sm.s rfl
set_option maxHeartbeats 2000000 in
theorem y_X11_step {t t' : Nat} {a1 : Int32} {a2 : Int32} {a3 : Int32} {a4 : Int32} {h h' : tq_H} (gt : (Rr r d) t t') (gh : (Em r d W0 H0 al) h h') : Sm (Rp Eq (Em r d W0 H0 al)) (f_X11_step t a1 a2 a3 a4 h) (f_X11_step t' a1 a2 a3 a4 h') := by
  unfold f_X11_step
  refine Sm.b (Sm.is gh gt) ?_
  intro _ _ _
  refine Sm.b (y_X11_isPath gt gh) ?_
  rintro v1 _ rfl
  refine Sm.b (R := Eq) ?_ ?_
  · refine Sm.i ?_ ?_
    · exact Sm.s rfl
    · refine Sm.i ?_ ?_
      · refine Sm.b (y_X11_in gh) ?_
        rintro v3 _ rfl
        refine Sm.i ?_ ?_
        · exact Sm.s rfl
        · exact Sm.s rfl
      · exact Sm.s rfl
  · rintro p4 _ rfl
    refine Sm.b (y_X11_in gh) ?_
    rintro v5 _ rfl
    refine Sm.b (R := Eq) ?_ ?_
    · refine Sm.i ?_ ?_
      · exact Sm.s rfl
      · refine Sm.b (y_X11_in gh) ?_
        rintro v6 _ rfl
        refine Sm.i ?_ ?_
        · exact Sm.s rfl
        · refine Sm.i ?_ ?_
          · exact Sm.s rfl
          · refine Sm.i ?_ ?_
            · exact Sm.s rfl
            · exact Sm.s rfl
    · rintro p7 _ rfl
      refine Sm.b (R := Eq) ?_ ?_
      · refine Sm.i ?_ ?_
        · exact Sm.s rfl
        · refine Sm.i ?_ ?_
          · exact Sm.s rfl
          · refine Sm.b (Sm.gr gh gt) ?_
            rintro k8 k8' gk8
            refine Sm.b (Sm.ai gh gk8) ?_
            rintro x9 _ rfl
            refine Sm.i ?_ ?_
            · exact Sm.s rfl
            · refine Sm.b (Sm.is gh gt) ?_
              intro _ _ _
              refine Sm.b (y_X11_isOpen gt gh) ?_
              rintro v10 _ rfl
              refine Sm.i ?_ ?_
              · exact Sm.s rfl
              · exact Sm.s rfl
      · rintro p12 _ rfl
        refine Sm.b (Sm.is gh gt) ?_
        intro _ _ _
        refine Sm.b (y_X11_refused gt gh) ?_
        rintro ⟨v13a, v13b⟩ ⟨_, v13b'⟩ ⟨rfl, gv13b⟩
        refine Sm.i ?_ ?_
        · refine Sm.b (Sm.gr gv13b gt) ?_
          rintro k15 k15' gk15
          refine Sm.b (Sm.ai gv13b gk15) ?_
          rintro x16 _ rfl
          refine Sm.l ?_
          refine Sm.b (Sm.gr gv13b gt) ?_
          rintro k18 k18' gk18
          refine Sm.b (Sm.si gv13b gk18) ?_
          rintro w19 w19' gw19
          refine Sm.b (Sm.gr gw19 gt) ?_
          rintro k20 k20' gk20
          refine Sm.b (Sm.si gw19 gk20) ?_
          rintro w21 w21' gw21
          refine Sm.b (Sm.gr gw21 gt) ?_
          rintro k22 k22' gk22
          refine Sm.b (Sm.si gw21 gk22) ?_
          rintro w23 w23' gw23
          refine Sm.b (Sm.gr gw23 gt) ?_
          rintro k24 k24' gk24
          refine Sm.b (Sm.si gw23 gk24) ?_
          rintro w25 w25' gw25
          refine Sm.b (Sm.gr gw25 gt) ?_
          rintro k26 k26' gk26
          refine Sm.b (Sm.ai gw25 gk26) ?_
          rintro x27 _ rfl
          refine Sm.b (Sm.si gw25 gk26) ?_
          rintro w28 w28' gw28
          refine Sm.b (Sm.gr gw28 gt) ?_
          rintro k29 k29' gk29
          refine Sm.b (Sm.ai gw28 gk29) ?_
          rintro x30 _ rfl
          exact Sm.s (Rp.i rfl gw28)
        · exact Sm.s (Rp.i rfl gv13b)
set_option maxHeartbeats 2000000 in
theorem y_X11_takesCondition {t t' : Nat} {a1 : Int32} {h h' : tq_H} (gt : (Rr r d) t t') (gh : (Em r d W0 H0 al) h h') : Sm Eq (f_X11_takesCondition t a1 h) (f_X11_takesCondition t' a1 h') := by
  unfold f_X11_takesCondition
  refine Sm.b (Sm.gr gh gt) ?_
  rintro k1 k1' gk1
  refine Sm.b (Sm.ai gh gk1) ?_
  rintro x2 _ rfl
  refine Sm.b (R := Eq) ?_ ?_
  · refine Sm.i ?_ ?_
    · exact Sm.s rfl
    · refine Sm.b (Sm.gr gh gt) ?_
      rintro k3 k3' gk3
      refine Sm.b (Sm.gr gh gt) ?_
      rintro k4 k4' gk4
      refine Sm.b (Sm.ai gh gk4) ?_
      rintro x5 _ rfl
      refine Sm.b (Sm.ai gh gk3) ?_
      rintro x6 _ rfl
      refine Sm.i ?_ ?_
      · exact Sm.s rfl
      · refine Sm.b (Sm.is gh gt) ?_
        intro _ _ _
        refine Sm.b (y_X11_isOpen gt gh) ?_
        rintro v7 _ rfl
        refine Sm.i ?_ ?_
        · exact Sm.s rfl
        · exact Sm.s rfl
  · rintro p9 _ rfl
    refine Sm.b (Sm.r) ?_
    rintro z10 _ rfl
    exact Sm.s rfl
set_option maxHeartbeats 2000000 in
theorem y_X11_condition {t t' : Nat} {a1 : Int32} {a2 : Int32} {a3 : Int32} {a4 : Int32} {a5 : Int32} {h h' : tq_H} (gt : (Rr r d) t t') (gh : (Em r d W0 H0 al) h h') : Sm (Rp Eq (Em r d W0 H0 al)) (f_X11_condition t a1 a2 a3 a4 a5 h) (f_X11_condition t' a1 a2 a3 a4 a5 h') := by
  unfold f_X11_condition
  refine Sm.b (Sm.gr gh gt) ?_
  rintro k1 k1' gk1
  refine Sm.b (Sm.ai gh gk1) ?_
  rintro x2 _ rfl
  refine Sm.l ?_
  refine Sm.b (Sm.gr gh gt) ?_
  rintro k4 k4' gk4
  refine Sm.b (Sm.ai gh gk4) ?_
  rintro x5 _ rfl
  refine Sm.l ?_
  refine Sm.b (Sm.gr gh gt) ?_
  rintro k7 k7' gk7
  refine Sm.b (Sm.si gh gk7) ?_
  rintro w8 w8' gw8
  refine Sm.b (Sm.gr gw8 gt) ?_
  rintro k9 k9' gk9
  refine Sm.b (Sm.si gw8 gk9) ?_
  rintro w10 w10' gw10
  refine Sm.b (Sm.gr gw10 gt) ?_
  rintro k11 k11' gk11
  refine Sm.b (Sm.si gw10 gk11) ?_
  rintro w12 w12' gw12
  refine Sm.b (Sm.gr gw12 gt) ?_
  rintro k13 k13' gk13
  refine Sm.b (Sm.si gw12 gk13) ?_
  rintro w14 w14' gw14
  refine Sm.b (Sm.gr gw14 gt) ?_
  rintro k15 k15' gk15
  refine Sm.b (Sm.ai gw14 gk15) ?_
  rintro x16 _ rfl
  refine Sm.b (Sm.si gw14 gk15) ?_
  rintro w17 w17' gw17
  refine Sm.b (Sm.gr gw17 gt) ?_
  rintro k18 k18' gk18
  refine Sm.b (Sm.ai gw17 gk18) ?_
  rintro x19 _ rfl
  exact Sm.s (Rp.i rfl gw17)
set_option maxHeartbeats 2000000 in
theorem y_X11_place {t t' : Nat} {a1 : Int32} {a2 : Int32} {a3 : Int32} {h h' : tq_H} (gt : (Rr r d) t t') (gh : (Em r d W0 H0 al) h h') : Sm (Rp Eq (Em r d W0 H0 al)) (f_X11_place t a1 a2 a3 h) (f_X11_place t' a1 a2 a3 h') := by
  unfold f_X11_place
  refine Sm.b (y_X11_in gh) ?_
  rintro v1 _ rfl
  refine Sm.b (R := Eq) ?_ ?_
  · refine Sm.i ?_ ?_
    · exact Sm.s rfl
    · refine Sm.b (y_X11_in gh) ?_
      rintro v2 _ rfl
      refine Sm.i ?_ ?_
      · exact Sm.s rfl
      · exact Sm.s rfl
  · rintro p3 _ rfl
    refine Sm.b (Sm.is gh gt) ?_
    intro _ _ _
    refine Sm.b (y_X11_isPath gt gh) ?_
    rintro v4 _ rfl
    refine Sm.b (R := Eq) ?_ ?_
    · refine Sm.i ?_ ?_
      · exact Sm.s rfl
      · refine Sm.i ?_ ?_
        · exact Sm.s rfl
        · refine Sm.b (Sm.is gh gt) ?_
          intro _ _ _
          refine Sm.b (y_X11_takesCondition gt gh) ?_
          rintro v6 _ rfl
          refine Sm.i ?_ ?_
          · exact Sm.s rfl
          · exact Sm.s rfl
    · rintro p8 _ rfl
      refine Sm.b (Sm.is gh gt) ?_
      intro _ _ _
      refine Sm.b (y_X11_refused gt gh) ?_
      rintro ⟨v9a, v9b⟩ ⟨_, v9b'⟩ ⟨rfl, gv9b⟩
      refine Sm.i ?_ ?_
      · refine Sm.b (Sm.is gv9b gt) ?_
        intro _ _ _
        refine Sm.b (y_X11_condition gt gv9b) ?_
        rintro ⟨v11a, v11b⟩ ⟨_, v11b'⟩ ⟨rfl, gv11b⟩
        exact Sm.s (Rp.i rfl gv11b)
      · exact Sm.s (Rp.i rfl gv9b)
set_option maxHeartbeats 2000000 in
theorem y_X11_last {t t' : Nat} {a1 : Int32} {h h' : tq_H} (gt : (Rr r d) t t') (gh : (Em r d W0 H0 al) h h') : Sm (Rp Eq (Em r d W0 H0 al)) (f_X11_last t a1 h) (f_X11_last t' a1 h') := by
  unfold f_X11_last
  refine Sm.b (Sm.is gh gt) ?_
  intro _ _ _
  refine Sm.b (y_X11_isPath gt gh) ?_
  rintro v1 _ rfl
  refine Sm.b (R := Eq) ?_ ?_
  · refine Sm.i ?_ ?_
    · exact Sm.s rfl
    · refine Sm.b (Sm.is gh gt) ?_
      intro _ _ _
      refine Sm.b (y_X11_takesCondition gt gh) ?_
      rintro v3 _ rfl
      refine Sm.i ?_ ?_
      · exact Sm.s rfl
      · exact Sm.s rfl
  · rintro p5 _ rfl
    refine Sm.b (Sm.is gh gt) ?_
    intro _ _ _
    refine Sm.b (y_X11_refused gt gh) ?_
    rintro ⟨v6a, v6b⟩ ⟨_, v6b'⟩ ⟨rfl, gv6b⟩
    refine Sm.i ?_ ?_
    · refine Sm.b (Sm.is gv6b gt) ?_
      intro _ _ _
      refine Sm.b (y_X11_condition gt gv6b) ?_
      rintro ⟨v8a, v8b⟩ ⟨_, v8b'⟩ ⟨rfl, gv8b⟩
      exact Sm.s (Rp.i rfl gv8b)
    · exact Sm.s (Rp.i rfl gv6b)
set_option maxHeartbeats 2000000 in
theorem y_X11_has {t t' : Nat} {a1 : Int32} {a2 : Int32} {a3 : Int32} {h h' : tq_H} (gt : (Rr r d) t t') (gh : (Em r d W0 H0 al) h h') : Sm (Rp Eq (Em r d W0 H0 al)) (f_X11_has t a1 a2 a3 h) (f_X11_has t' a1 a2 a3 h') := by
  unfold f_X11_has
  refine Sm.b (Sm.is gh gt) ?_
  intro _ _ _
  refine Sm.b (y_X11_isPath gt gh) ?_
  rintro v1 _ rfl
  refine Sm.b (R := Eq) ?_ ?_
  · refine Sm.i ?_ ?_
    · exact Sm.s rfl
    · refine Sm.b (y_X11_in gh) ?_
      rintro v3 _ rfl
      refine Sm.i ?_ ?_
      · exact Sm.s rfl
      · exact Sm.s rfl
  · rintro p4 _ rfl
    refine Sm.b (R := Eq) ?_ ?_
    · refine Sm.i ?_ ?_
      · exact Sm.s rfl
      · refine Sm.b (Sm.is gh gt) ?_
        intro _ _ _
        refine Sm.b (y_X11_takesCondition gt gh) ?_
        rintro v5 _ rfl
        refine Sm.i ?_ ?_
        · exact Sm.s rfl
        · exact Sm.s rfl
    · rintro p7 _ rfl
      refine Sm.b (Sm.is gh gt) ?_
      intro _ _ _
      refine Sm.b (y_X11_refused gt gh) ?_
      rintro ⟨v8a, v8b⟩ ⟨_, v8b'⟩ ⟨rfl, gv8b⟩
      refine Sm.i ?_ ?_
      · refine Sm.l ?_
        refine Sm.b (Sm.is gv8b gt) ?_
        intro _ _ _
        refine Sm.b (y_X11_condition gt gv8b) ?_
        rintro ⟨v11a, v11b⟩ ⟨_, v11b'⟩ ⟨rfl, gv11b⟩
        exact Sm.s (Rp.i rfl gv11b)
      · exact Sm.s (Rp.i rfl gv8b)
set_option maxHeartbeats 2000000 in
theorem y_X11_worth {t t' : Nat} {a1 : Int32} {a2 : Int32} {a3 : Int32} {a4 : Int32} {h h' : tq_H} (gt : (Rr r d) t t') (gh : (Em r d W0 H0 al) h h') : Sm (Rp Eq (Em r d W0 H0 al)) (f_X11_worth t a1 a2 a3 a4 h) (f_X11_worth t' a1 a2 a3 a4 h') := by
  unfold f_X11_worth
  refine Sm.b (Sm.is gh gt) ?_
  intro _ _ _
  refine Sm.b (y_X11_isPath gt gh) ?_
  rintro v1 _ rfl
  refine Sm.b (R := Eq) ?_ ?_
  · refine Sm.i ?_ ?_
    · exact Sm.s rfl
    · refine Sm.b (y_X11_in gh) ?_
      rintro v3 _ rfl
      refine Sm.i ?_ ?_
      · exact Sm.s rfl
      · exact Sm.s rfl
  · rintro p4 _ rfl
    refine Sm.b (y_X11_in gh) ?_
    rintro v5 _ rfl
    refine Sm.b (R := Eq) ?_ ?_
    · refine Sm.i ?_ ?_
      · exact Sm.s rfl
      · refine Sm.b (y_X11_in gh) ?_
        rintro v6 _ rfl
        refine Sm.i ?_ ?_
        · exact Sm.s rfl
        · exact Sm.s rfl
    · rintro p7 _ rfl
      refine Sm.b (R := Eq) ?_ ?_
      · refine Sm.i ?_ ?_
        · exact Sm.s rfl
        · refine Sm.i ?_ ?_
          · exact Sm.s rfl
          · refine Sm.b (Sm.is gh gt) ?_
            intro _ _ _
            refine Sm.b (y_X11_takesCondition gt gh) ?_
            rintro v8 _ rfl
            refine Sm.i ?_ ?_
            · exact Sm.s rfl
            · exact Sm.s rfl
      · rintro p10 _ rfl
        refine Sm.b (Sm.is gh gt) ?_
        intro _ _ _
        refine Sm.b (y_X11_refused gt gh) ?_
        rintro ⟨v11a, v11b⟩ ⟨_, v11b'⟩ ⟨rfl, gv11b⟩
        refine Sm.i ?_ ?_
        · refine Sm.b (Sm.is gv11b gt) ?_
          intro _ _ _
          refine Sm.b (y_X11_condition gt gv11b) ?_
          rintro ⟨v13a, v13b⟩ ⟨_, v13b'⟩ ⟨rfl, gv13b⟩
          exact Sm.s (Rp.i rfl gv13b)
        · exact Sm.s (Rp.i rfl gv11b)
set_option maxHeartbeats 2000000 in
theorem y_X11_paths {t t' : Nat} {h h' : tq_H} (gt : (Rr r d) t t') (gh : (Em r d W0 H0 al) h h') : Sm (Rp Eq (Em r d W0 H0 al)) (f_X11_paths t h) (f_X11_paths t' h') := by
  unfold f_X11_paths
  refine Sm.b (Sm.gi gh gt) ?_
  rintro x1 _ rfl
  refine Sm.b (Sm.is gh gt) ?_
  intro _ _ _
  refine Sm.b (y_X11_fine gt gh) ?_
  rintro ⟨v2a, v2b⟩ ⟨_, v2b'⟩ ⟨rfl, gv2b⟩
  exact Sm.s (Rp.i rfl gv2b)
set_option maxHeartbeats 2000000 in
theorem y_X11_readAsReader {t t' : Nat} {a1 : Int32} {h h' : tq_H} (gt : (Rr r d) t t') (gh : (Em r d W0 H0 al) h h') : Sm (Rp Eq (Em r d W0 H0 al)) (f_X11_readAsReader t a1 h) (f_X11_readAsReader t' a1 h') := by
  unfold f_X11_readAsReader
  refine Sm.b (Sm.pf gh gt (okV_i _)) ?_
  rintro w1 w1' gw1
  refine Sm.b (Sm.gi gw1 gt) ?_
  rintro x2 _ rfl
  refine Sm.b (Sm.r) ?_
  rintro z4 _ rfl
  refine Sm.b (Sm.pf gw1 gt (okV_i _)) ?_
  rintro w3 w3' gw3
  refine Sm.b (Sm.r) ?_
  rintro z5 _ rfl
  exact Sm.s (Rp.i rfl gw3)
set_option maxHeartbeats 2000000 in
theorem y_X11_seen_b12 {i0 i0' : Nat} {hh hh' : tq_H} (gi0 : (Rr r d) i0 i0') (ghh : (Em r d W0 H0 al) hh hh') : ∀ s s', (Rp Eq Eq) s s' → Sm (Ru (Rp Eq Eq) Eq) (f_X11_seen_b12 i0 hh s) (f_X11_seen_b12 i0' hh' s') := by
  rintro ⟨y1, y3⟩ ⟨_, _⟩ ⟨rfl, rfl⟩
  dsimp only [f_X11_seen_b12]
  refine Sm.b (Sm.gi ghh gi0) ?_
  rintro x5 _ rfl
  refine Sm.i ?_ ?_
  · exact Sm.s (Ru.r rfl)
  · refine Sm.b (Sm.gr ghh gi0) ?_
    rintro k6 k6' gk6
    refine Sm.b (Sm.gr ghh gi0) ?_
    rintro k7 k7' gk7
    refine Sm.b (Sm.ai ghh gk7) ?_
    rintro x8 _ rfl
    refine Sm.b (Sm.aj ghh gk6) ?_
    rintro x9 _ rfl
    refine Sm.l ?_
    refine Sm.l ?_
    exact Sm.s (Ru.l (Rp.i rfl rfl))
set_option maxHeartbeats 2000000 in
theorem y_X11_seen_b69 {i0 i0' : Nat} {i1 : Int64} {i3 : Int64} {i5 : Int32} {hh hh' : tq_H} (gi0 : (Rr r d) i0 i0') (ghh : (Em r d W0 H0 al) hh hh') : ∀ s s', (Rp Eq Eq) s s' → Sm (Ru (Rp Eq Eq) Eq) (f_X11_seen_b69 i0 i1 i3 i5 hh s) (f_X11_seen_b69 i0' i1 i3 i5 hh' s') := by
  rintro ⟨y6, y7⟩ ⟨_, _⟩ ⟨rfl, rfl⟩
  dsimp only [f_X11_seen_b69]
  refine Sm.i ?_ ?_
  · exact Sm.s (Ru.r rfl)
  · refine Sm.l ?_
    refine Sm.b (Sm.gr ghh gi0) ?_
    rintro k17 k17' gk17
    refine Sm.b (Sm.ai ghh gk17) ?_
    rintro x18 _ rfl
    exact Sm.s (Ru.l (Rp.i rfl rfl))
set_option maxHeartbeats 2000000 in
theorem y_X11_seen_b48 {i0 i0' : Nat} {i1 : Int64} {hh hh' : tq_H} (gi0 : (Rr r d) i0 i0') (ghh : (Em r d W0 H0 al) hh hh') : ∀ s s', (Rp Eq Eq) s s' → Sm (Ru (Rp Eq Eq) Eq) (f_X11_seen_b48 i0 i1 hh s) (f_X11_seen_b48 i0' i1 hh' s') := by
  rintro ⟨y3, y5⟩ ⟨_, _⟩ ⟨rfl, rfl⟩
  dsimp only [f_X11_seen_b48]
  refine Sm.b (Sm.gi ghh gi0) ?_
  rintro x13 _ rfl
  refine Sm.i ?_ ?_
  · exact Sm.s (Ru.r rfl)
  · refine Sm.b (Sm.gr ghh gi0) ?_
    rintro k14 k14' gk14
    refine Sm.b (Sm.ai ghh gk14) ?_
    rintro x15 _ rfl
    refine Sm.b (Sm.w (y_X11_seen_b69 gi0 ghh) tq_N (Rp.i rfl rfl)) ?_
    rintro o19 _ rfl
    refine Sm.b (R := Eq) ?_ ?_
    · refine Sm.i ?_ ?_
      · exact Sm.s rfl
      · refine Sm.b (Sm.gr ghh gi0) ?_
        rintro k20 k20' gk20
        refine Sm.b (Sm.ai ghh gk20) ?_
        rintro x21 _ rfl
        exact Sm.s rfl
    · rintro p22 _ rfl
      refine Sm.l ?_
      refine Sm.l ?_
      exact Sm.s (Ru.l (Rp.i rfl rfl))
set_option maxHeartbeats 2000000 in
theorem y_X11_seen {t t' : Nat} {h h' : tq_H} (gt : (Rr r d) t t') (gh : (Em r d W0 H0 al) h h') : Sm (Rp Eq (Em r d W0 H0 al)) (f_X11_seen t h) (f_X11_seen t' h') := by
  unfold f_X11_seen
  refine Sm.b (Sm.is gh gt) ?_
  intro _ _ _
  refine Sm.b (y_X11_all gt gh) ?_
  rintro v1 _ rfl
  refine Sm.b (Sm.is gh gt) ?_
  intro _ _ _
  refine Sm.b (y_X11_findAll gt gh) ?_
  rintro v3 v3' gv3
  refine Sm.b (Sm.w (y_X11_seen_b12 gt gv3) tq_N (Rp.i rfl rfl)) ?_
  rintro o12 _ rfl
  refine Sm.b (Sm.w (y_X11_seen_b48 gt gv3) tq_N (Rp.i rfl rfl)) ?_
  rintro o25 _ rfl
  exact Sm.s (Rp.i rfl gv3)
set_option maxHeartbeats 2000000 in
theorem y_X11_read {t t' : Nat} {h h' : tq_H} (gt : (Rr r d) t t') (gh : (Em r d W0 H0 al) h h') : Sm (Em r d W0 H0 al) (f_X11_read t h) (f_X11_read t' h') := by
  unfold f_X11_read
  refine Sm.b (Sm.gi gh gt) ?_
  rintro x1 _ rfl
  refine Sm.b (R := (Rp Eq (Em r d W0 H0 al))) ?_ ?_
  · refine Sm.i ?_ ?_
    · refine Sm.b (Sm.is gh gt) ?_
      intro _ _ _
      refine Sm.b (y_X11_all gt gh) ?_
      rintro v2 _ rfl
      exact Sm.s (Rp.i rfl gh)
    · refine Sm.b (Sm.is gh gt) ?_
      intro _ _ _
      refine Sm.b (y_X11_seen gt gh) ?_
      rintro ⟨v4a, v4b⟩ ⟨_, v4b'⟩ ⟨rfl, gv4b⟩
      exact Sm.s (Rp.i rfl gv4b)
  · rintro ⟨p6a, p6b⟩ ⟨_, p6b'⟩ ⟨rfl, gp6b⟩
    refine Sm.b (Sm.is gp6b gt) ?_
    intro _ _ _
    refine Sm.b (y_X11_findAll gt gp6b) ?_
    rintro v7 v7' gv7
    exact Sm.s gv7
set_option maxHeartbeats 2000000 in
theorem y_X11_found {t t' : Nat} {a1 : Int32} {a2 : Int32} {h h' : tq_H} (gt : (Rr r d) t t') (gh : (Em r d W0 H0 al) h h') : Sm (Rp Eq (Em r d W0 H0 al)) (f_X11_found t a1 a2 h) (f_X11_found t' a1 a2 h') := by
  unfold f_X11_found
  refine Sm.b (Sm.is gh gt) ?_
  intro _ _ _
  refine Sm.b (y_X11_isPath gt gh) ?_
  rintro v1 _ rfl
  refine Sm.b (R := Eq) ?_ ?_
  · refine Sm.i ?_ ?_
    · exact Sm.s rfl
    · refine Sm.b (Sm.is gh gt) ?_
      intro _ _ _
      refine Sm.b (y_X11_isNode gt gh) ?_
      rintro v3 _ rfl
      refine Sm.i ?_ ?_
      · exact Sm.s rfl
      · exact Sm.s rfl
  · rintro p5 _ rfl
    refine Sm.b (R := (Rp Eq (Em r d W0 H0 al))) ?_ ?_
    · refine Sm.i ?_ ?_
      · exact Sm.s (Rp.i rfl gh)
      · refine Sm.b (Sm.is gh gt) ?_
        intro _ _ _
        refine Sm.b (y_X11_read gt gh) ?_
        rintro v6 v6' gv6
        refine Sm.b (Sm.gl gv6 gt) ?_
        rintro x8 _ rfl
        refine Sm.l ?_
        exact Sm.s (Rp.i rfl gv6)
    · rintro ⟨p10a, p10b⟩ ⟨_, p10b'⟩ ⟨rfl, gp10b⟩
      refine Sm.l ?_
      refine Sm.b (Sm.is gp10b gt) ?_
      intro _ _ _
      refine Sm.b (y_X11_refused gt gp10b) ?_
      rintro ⟨v12a, v12b⟩ ⟨_, v12b'⟩ ⟨rfl, gv12b⟩
      refine Sm.b (R := Eq) ?_ ?_
      · refine Sm.i ?_ ?_
        · refine Sm.b (Sm.gr gv12b gt) ?_
          rintro k14 k14' gk14
          refine Sm.b (Sm.aj gv12b gk14) ?_
          rintro x15 _ rfl
          refine Sm.b (y_X11_bits gv12b) ?_
          rintro v16 _ rfl
          exact Sm.s rfl
        · exact Sm.s rfl
      · rintro p17 _ rfl
        exact Sm.s (Rp.i rfl gv12b)
set_option maxHeartbeats 2000000 in
theorem y_X11_foundAnew {t t' : Nat} {a1 : Int32} {a2 : Int32} {h h' : tq_H} (gt : (Rr r d) t t') (gh : (Em r d W0 H0 al) h h') : Sm (Rp Eq (Em r d W0 H0 al)) (f_X11_foundAnew t a1 a2 h) (f_X11_foundAnew t' a1 a2 h') := by
  unfold f_X11_foundAnew
  refine Sm.b (Sm.is gh gt) ?_
  intro _ _ _
  refine Sm.b (y_X11_found gt gh) ?_
  rintro ⟨v1a, v1b⟩ ⟨_, v1b'⟩ ⟨rfl, gv1b⟩
  exact Sm.s (Rp.i rfl gv1b)
set_option maxHeartbeats 2000000 in
theorem y_X11_pick_b9 {i0 i0' : Nat} {i1 : Int64} {i3 : Int32} {hh hh' : tq_H} (gi0 : (Rr r d) i0 i0') (ghh : (Em r d W0 H0 al) hh hh') : ∀ s s', (Rp Eq (Rp Eq Eq)) s s' → Sm (Ru (Rp Eq (Rp Eq Eq)) Eq) (f_X11_pick_b9 i0 i1 i3 hh s) (f_X11_pick_b9 i0' i1 i3 hh' s') := by
  rintro ⟨y4, ⟨y5, y6⟩⟩ ⟨_, ⟨_, _⟩⟩ ⟨rfl, ⟨rfl, rfl⟩⟩
  dsimp only [f_X11_pick_b9]
  refine Sm.b (Sm.gi ghh gi0) ?_
  rintro x1 _ rfl
  refine Sm.i ?_ ?_
  · exact Sm.s (Ru.r rfl)
  · refine Sm.b (Sm.gr ghh gi0) ?_
    rintro k2 k2' gk2
    refine Sm.b (Sm.ai ghh gk2) ?_
    rintro x3 _ rfl
    refine Sm.l ?_
    refine Sm.b (R := Eq) ?_ ?_
    · refine Sm.i ?_ ?_
      · exact Sm.s rfl
      · refine Sm.i ?_ ?_
        · refine Sm.b (Sm.gr ghh gi0) ?_
          rintro k5 k5' gk5
          refine Sm.b (Sm.ai ghh gk5) ?_
          rintro x6 _ rfl
          exact Sm.s rfl
        · exact Sm.s rfl
    · rintro p7 _ rfl
      refine Sm.l ?_
      refine Sm.l ?_
      refine Sm.l ?_
      exact Sm.s (Ru.l (Rp.i rfl (Rp.i rfl rfl)))
set_option maxHeartbeats 2000000 in
theorem y_X11_pick {t t' : Nat} {a1 : Int64} {a3 : Int32} {h h' : tq_H} (gt : (Rr r d) t t') (gh : (Em r d W0 H0 al) h h') : Sm Eq (f_X11_pick t a1 a3 h) (f_X11_pick t' a1 a3 h') := by
  unfold f_X11_pick
  refine Sm.b (Sm.w (y_X11_pick_b9 gt gh) tq_N (Rp.i rfl (Rp.i rfl rfl))) ?_
  rintro o11 _ rfl
  exact Sm.s rfl
set_option maxHeartbeats 2000000 in
theorem y_X11_foundBy {t t' : Nat} {a1 : Int32} {h h' : tq_H} (gt : (Rr r d) t t') (gh : (Em r d W0 H0 al) h h') : Sm (Rp Eq (Em r d W0 H0 al)) (f_X11_foundBy t a1 h) (f_X11_foundBy t' a1 h') := by
  unfold f_X11_foundBy
  refine Sm.b (Sm.is gh gt) ?_
  intro _ _ _
  refine Sm.b (y_X11_isPath gt gh) ?_
  rintro v1 _ rfl
  refine Sm.i ?_ ?_
  · exact Sm.s (Rp.i rfl gh)
  · refine Sm.b (Sm.is gh gt) ?_
    intro _ _ _
    refine Sm.b (y_X11_read gt gh) ?_
    rintro v3 v3' gv3
    refine Sm.b (Sm.gr gv3 gt) ?_
    rintro k5 k5' gk5
    refine Sm.b (Sm.aj gv3 gk5) ?_
    rintro x6 _ rfl
    exact Sm.s (Rp.i rfl gv3)
set_option maxHeartbeats 2000000 in
theorem y_X11_foundAt {t t' : Nat} {a1 : Int32} {a2 : Int32} {h h' : tq_H} (gt : (Rr r d) t t') (gh : (Em r d W0 H0 al) h h') : Sm (Rp Eq (Em r d W0 H0 al)) (f_X11_foundAt t a1 a2 h) (f_X11_foundAt t' a1 a2 h') := by
  unfold f_X11_foundAt
  refine Sm.b (Sm.is gh gt) ?_
  intro _ _ _
  refine Sm.b (y_X11_foundBy gt gh) ?_
  rintro ⟨v1a, v1b⟩ ⟨_, v1b'⟩ ⟨rfl, gv1b⟩
  refine Sm.b (y_X11_bits gv1b) ?_
  rintro v3 _ rfl
  refine Sm.b (y_X11_in gv1b) ?_
  rintro v4 _ rfl
  refine Sm.l ?_
  refine Sm.b (Sm.is gv1b gt) ?_
  intro _ _ _
  refine Sm.b (y_X11_refused gt gv1b) ?_
  rintro ⟨v6a, v6b⟩ ⟨_, v6b'⟩ ⟨rfl, gv6b⟩
  refine Sm.b (R := Eq) ?_ ?_
  · refine Sm.i ?_ ?_
    · refine Sm.b (Sm.is gv6b gt) ?_
      intro _ _ _
      refine Sm.b (y_X11_pick gt gv6b) ?_
      rintro v8 _ rfl
      exact Sm.s rfl
    · exact Sm.s rfl
  · rintro p10 _ rfl
    exact Sm.s (Rp.i rfl gv6b)
set_option maxHeartbeats 2000000 in
theorem y_X11_ordered_b72 {i0 i0' : Nat} {i2 : Int32} {i3 : Int64} {i5 : Int32} {i6 : Int32} {i8 : Int32} {hh hh' : tq_H} (gi0 : (Rr r d) i0 i0') (ghh : (Em r d W0 H0 al) hh hh') : ∀ s s', (Rp Eq Eq) s s' → Sm (Ru (Rp Eq Eq) Eq) (f_X11_ordered_b72 i0 i2 i3 i5 i6 i8 hh s) (f_X11_ordered_b72 i0' i2 i3 i5 i6 i8 hh' s') := by
  rintro ⟨y7, y9⟩ ⟨_, _⟩ ⟨rfl, rfl⟩
  dsimp only [f_X11_ordered_b72]
  refine Sm.b (Sm.gi ghh gi0) ?_
  rintro x14 _ rfl
  refine Sm.i ?_ ?_
  · exact Sm.s (Ru.r rfl)
  · refine Sm.b (Sm.gr ghh gi0) ?_
    rintro k15 k15' gk15
    refine Sm.b (Sm.ai ghh gk15) ?_
    rintro x16 _ rfl
    refine Sm.b (Sm.gl ghh gi0) ?_
    rintro x17 _ rfl
    refine Sm.b (Sm.is ghh gi0) ?_
    intro _ _ _
    refine Sm.b (y_X11_valueOf gi0 ghh) ?_
    rintro v18 _ rfl
    refine Sm.b (Sm.gr ghh gi0) ?_
    rintro k20 k20' gk20
    refine Sm.b (Sm.ai ghh gk20) ?_
    rintro x21 _ rfl
    refine Sm.l ?_
    refine Sm.l ?_
    refine Sm.l ?_
    exact Sm.s (Ru.l (Rp.i rfl rfl))
set_option maxHeartbeats 2000000 in
theorem y_X11_ordered_b40 {i0 i0' : Nat} {i2 : Int32} {i3 : Int64} {hh hh' : tq_H} (gi0 : (Rr r d) i0 i0') (ghh : (Em r d W0 H0 al) hh hh') : ∀ s s', (Rp Eq Eq) s s' → Sm (Ru (Rp Eq Eq) Eq) (f_X11_ordered_b40 i0 i2 i3 hh s) (f_X11_ordered_b40 i0' i2 i3 hh' s') := by
  rintro ⟨y5, y6⟩ ⟨_, _⟩ ⟨rfl, rfl⟩
  dsimp only [f_X11_ordered_b40]
  refine Sm.b (Sm.gi ghh gi0) ?_
  rintro x8 _ rfl
  refine Sm.i ?_ ?_
  · exact Sm.s (Ru.r rfl)
  · refine Sm.b (Sm.gr ghh gi0) ?_
    rintro k9 k9' gk9
    refine Sm.b (Sm.ai ghh gk9) ?_
    rintro x10 _ rfl
    refine Sm.b (Sm.gl ghh gi0) ?_
    rintro x11 _ rfl
    refine Sm.b (Sm.is ghh gi0) ?_
    intro _ _ _
    refine Sm.b (y_X11_valueOf gi0 ghh) ?_
    rintro v12 _ rfl
    refine Sm.b (Sm.w (y_X11_ordered_b72 gi0 ghh) tq_N (Rp.i rfl rfl)) ?_
    rintro o25 _ rfl
    refine Sm.b (Sm.gr ghh gi0) ?_
    rintro k26 k26' gk26
    refine Sm.b (Sm.ai ghh gk26) ?_
    rintro x27 _ rfl
    refine Sm.b (R := Eq) ?_ ?_
    · refine Sm.i ?_ ?_
      · refine Sm.i ?_ ?_
        · refine Sm.b (Sm.gr ghh gi0) ?_
          rintro k28 k28' gk28
          refine Sm.b (Sm.ai ghh gk28) ?_
          rintro x29 _ rfl
          exact Sm.s rfl
        · exact Sm.s rfl
      · exact Sm.s rfl
    · rintro p30 _ rfl
      refine Sm.l ?_
      exact Sm.s (Ru.l (Rp.i rfl rfl))
set_option maxHeartbeats 2000000 in
theorem y_X11_ordered {t t' : Nat} {a1 : Int32} {a2 : Int32} {h h' : tq_H} (gt : (Rr r d) t t') (gh : (Em r d W0 H0 al) h h') : Sm (Rp Eq (Em r d W0 H0 al)) (f_X11_ordered t a1 a2 h) (f_X11_ordered t' a1 a2 h') := by
  unfold f_X11_ordered
  refine Sm.b (Sm.is gh gt) ?_
  intro _ _ _
  refine Sm.b (y_X11_foundBy gt gh) ?_
  rintro ⟨v1a, v1b⟩ ⟨_, v1b'⟩ ⟨rfl, gv1b⟩
  refine Sm.b (y_X11_bits gv1b) ?_
  rintro v3 _ rfl
  refine Sm.b (y_X11_in gv1b) ?_
  rintro v4 _ rfl
  refine Sm.l ?_
  refine Sm.b (Sm.is gv1b gt) ?_
  intro _ _ _
  refine Sm.b (y_X11_refused gt gv1b) ?_
  rintro ⟨v6a, v6b⟩ ⟨_, v6b'⟩ ⟨rfl, gv6b⟩
  refine Sm.i ?_ ?_
  · refine Sm.b (Sm.w (y_X11_ordered_b40 gt gv6b) tq_N (Rp.i rfl rfl)) ?_
    rintro o32 _ rfl
    exact Sm.s (Rp.i rfl gv6b)
  · exact Sm.s (Rp.i rfl gv6b)
set_option maxHeartbeats 2000000 in
theorem y_X11_groups_b69 {i0 i0' : Nat} {i2 : Int64} {i4 : Int32} {i5 : Int32} {hh hh' : tq_H} (gi0 : (Rr r d) i0 i0') (ghh : (Em r d W0 H0 al) hh hh') : ∀ s s', (Rp Eq Eq) s s' → Sm (Ru (Rp Eq Eq) Eq) (f_X11_groups_b69 i0 i2 i4 i5 hh s) (f_X11_groups_b69 i0' i2 i4 i5 hh' s') := by
  rintro ⟨y6, y7⟩ ⟨_, _⟩ ⟨rfl, rfl⟩
  dsimp only [f_X11_groups_b69]
  refine Sm.i ?_ ?_
  · exact Sm.s (Ru.r rfl)
  · refine Sm.i ?_ ?_
    · exact Sm.s (Ru.r rfl)
    · refine Sm.b (Sm.gr ghh gi0) ?_
      rintro k12 k12' gk12
      refine Sm.b (Sm.ai ghh gk12) ?_
      rintro x13 _ rfl
      refine Sm.b (R := Eq) ?_ ?_
      · refine Sm.i ?_ ?_
        · exact Sm.s rfl
        · refine Sm.b (Sm.gr ghh gi0) ?_
          rintro k14 k14' gk14
          refine Sm.b (Sm.ai ghh gk14) ?_
          rintro x15 _ rfl
          refine Sm.b (Sm.gl ghh gi0) ?_
          rintro x16 _ rfl
          refine Sm.b (Sm.is ghh gi0) ?_
          intro _ _ _
          refine Sm.b (y_X11_valueOf gi0 ghh) ?_
          rintro v17 _ rfl
          refine Sm.b (Sm.gr ghh gi0) ?_
          rintro k19 k19' gk19
          refine Sm.b (Sm.ai ghh gk19) ?_
          rintro x20 _ rfl
          refine Sm.b (Sm.gl ghh gi0) ?_
          rintro x21 _ rfl
          refine Sm.b (Sm.is ghh gi0) ?_
          intro _ _ _
          refine Sm.b (y_X11_valueOf gi0 ghh) ?_
          rintro v22 _ rfl
          refine Sm.i ?_ ?_
          · exact Sm.s rfl
          · exact Sm.s rfl
      · rintro p24 _ rfl
        refine Sm.l ?_
        exact Sm.s (Ru.l (Rp.i rfl rfl))
set_option maxHeartbeats 2000000 in
theorem y_X11_groups_b34 {i0 i0' : Nat} {i2 : Int64} {hh hh' : tq_H} (gi0 : (Rr r d) i0 i0') (ghh : (Em r d W0 H0 al) hh hh') : ∀ s s', (Rp Eq Eq) s s' → Sm (Ru (Rp Eq Eq) Eq) (f_X11_groups_b34 i0 i2 hh s) (f_X11_groups_b34 i0' i2 hh' s') := by
  rintro ⟨y4, y5⟩ ⟨_, _⟩ ⟨rfl, rfl⟩
  dsimp only [f_X11_groups_b34]
  refine Sm.b (Sm.gi ghh gi0) ?_
  rintro x8 _ rfl
  refine Sm.i ?_ ?_
  · exact Sm.s (Ru.r rfl)
  · refine Sm.b (Sm.gr ghh gi0) ?_
    rintro k9 k9' gk9
    refine Sm.b (Sm.ai ghh gk9) ?_
    rintro x10 _ rfl
    refine Sm.l ?_
    refine Sm.b (Sm.w (y_X11_groups_b69 gi0 ghh) tq_N (Rp.i rfl rfl)) ?_
    rintro o26 _ rfl
    refine Sm.l ?_
    refine Sm.l ?_
    refine Sm.l ?_
    exact Sm.s (Ru.l (Rp.i rfl rfl))
set_option maxHeartbeats 2000000 in
theorem y_X11_groups {t t' : Nat} {a1 : Int32} {h h' : tq_H} (gt : (Rr r d) t t') (gh : (Em r d W0 H0 al) h h') : Sm (Rp Eq (Em r d W0 H0 al)) (f_X11_groups t a1 h) (f_X11_groups t' a1 h') := by
  unfold f_X11_groups
  refine Sm.b (Sm.is gh gt) ?_
  intro _ _ _
  refine Sm.b (y_X11_isPath gt gh) ?_
  rintro v1 _ rfl
  refine Sm.l ?_
  refine Sm.b (Sm.is gh gt) ?_
  intro _ _ _
  refine Sm.b (y_X11_refused gt gh) ?_
  rintro ⟨v4a, v4b⟩ ⟨_, v4b'⟩ ⟨rfl, gv4b⟩
  refine Sm.i ?_ ?_
  · refine Sm.b (Sm.is gv4b gt) ?_
    intro _ _ _
    refine Sm.b (y_X11_foundBy gt gv4b) ?_
    rintro ⟨v6a, v6b⟩ ⟨_, v6b'⟩ ⟨rfl, gv6b⟩
    refine Sm.b (Sm.w (y_X11_groups_b34 gt gv6b) tq_N (Rp.i rfl rfl)) ?_
    rintro o30 _ rfl
    exact Sm.s (Rp.i rfl gv6b)
  · exact Sm.s (Rp.i rfl gv4b)
set_option maxHeartbeats 2000000 in
theorem y_X11_isType {a0 : Int32} {h h' : tq_H} (gh : (Em r d W0 H0 al) h h') : Sm Eq (f_X11_isType a0 h) (f_X11_isType a0 h') := by
  unfold f_X11_isType
  refine Sm.b (y_X11_in gh) ?_
  rintro v1 _ rfl
  refine Sm.b (Sm.r) ?_
  rintro z2 _ rfl
  exact Sm.s rfl
set_option maxHeartbeats 2000000 in
theorem y_X11_isState {a0 : Int32} {h h' : tq_H} (gh : (Em r d W0 H0 al) h h') : Sm Eq (f_X11_isState a0 h) (f_X11_isState a0 h') := by
  unfold f_X11_isState
  refine Sm.b (y_X11_in gh) ?_
  rintro v1 _ rfl
  refine Sm.b (Sm.r) ?_
  rintro z2 _ rfl
  exact Sm.s rfl
set_option maxHeartbeats 2000000 in
theorem y_X11_nameType {t t' : Nat} {a1 : Int32} {a2 : Int32} {h h' : tq_H} (gt : (Rr r d) t t') (gh : (Em r d W0 H0 al) h h') : Sm (Rp Eq (Em r d W0 H0 al)) (f_X11_nameType t a1 a2 h) (f_X11_nameType t' a1 a2 h') := by
  unfold f_X11_nameType
  refine Sm.b (y_X11_isType gh) ?_
  rintro v1 _ rfl
  refine Sm.b (R := Eq) ?_ ?_
  · refine Sm.i ?_ ?_
    · exact Sm.s rfl
    · refine Sm.b (y_X11_in gh) ?_
      rintro v2 _ rfl
      refine Sm.i ?_ ?_
      · exact Sm.s rfl
      · refine Sm.b (Sm.gi gh gt) ?_
        rintro x3 _ rfl
        refine Sm.i ?_ ?_
        · exact Sm.s rfl
        · exact Sm.s rfl
  · rintro p4 _ rfl
    refine Sm.b (Sm.is gh gt) ?_
    intro _ _ _
    refine Sm.b (y_X11_refused gt gh) ?_
    rintro ⟨v5a, v5b⟩ ⟨_, v5b'⟩ ⟨rfl, gv5b⟩
    refine Sm.i ?_ ?_
    · refine Sm.b (Sm.gr gv5b gt) ?_
      rintro k7 k7' gk7
      refine Sm.b (Sm.ai gv5b gk7) ?_
      rintro x8 _ rfl
      refine Sm.b (Sm.gr gv5b gt) ?_
      rintro k9 k9' gk9
      refine Sm.b (Sm.si gv5b gk9) ?_
      rintro w10 w10' gw10
      exact Sm.s (Rp.i rfl gw10)
    · exact Sm.s (Rp.i rfl gv5b)
set_option maxHeartbeats 2000000 in
theorem y_X11_arc {t t' : Nat} {a1 : Int32} {a2 : Int32} {a3 : Int32} {a4 : Int32} {h h' : tq_H} (gt : (Rr r d) t t') (gh : (Em r d W0 H0 al) h h') : Sm (Rp Eq (Em r d W0 H0 al)) (f_X11_arc t a1 a2 a3 a4 h) (f_X11_arc t' a1 a2 a3 a4 h') := by
  unfold f_X11_arc
  refine Sm.b (y_X11_isType gh) ?_
  rintro v1 _ rfl
  refine Sm.b (R := Eq) ?_ ?_
  · refine Sm.i ?_ ?_
    · exact Sm.s rfl
    · refine Sm.b (y_X11_isState gh) ?_
      rintro v2 _ rfl
      refine Sm.i ?_ ?_
      · exact Sm.s rfl
      · refine Sm.b (y_X11_isType gh) ?_
        rintro v3 _ rfl
        refine Sm.i ?_ ?_
        · exact Sm.s rfl
        · refine Sm.b (y_X11_isState gh) ?_
          rintro v4 _ rfl
          refine Sm.i ?_ ?_
          · exact Sm.s rfl
          · exact Sm.s rfl
  · rintro p5 _ rfl
    refine Sm.b (R := Eq) ?_ ?_
    · refine Sm.i ?_ ?_
      · exact Sm.s rfl
      · refine Sm.b (Sm.gi gh gt) ?_
        rintro x6 _ rfl
        refine Sm.i ?_ ?_
        · exact Sm.s rfl
        · exact Sm.s rfl
    · rintro p7 _ rfl
      refine Sm.b (Sm.is gh gt) ?_
      intro _ _ _
      refine Sm.b (y_X11_refused gt gh) ?_
      rintro ⟨v8a, v8b⟩ ⟨_, v8b'⟩ ⟨rfl, gv8b⟩
      refine Sm.i ?_ ?_
      · refine Sm.l ?_
        refine Sm.b (Sm.gr gv8b gt) ?_
        rintro k11 k11' gk11
        refine Sm.b (Sm.ai gv8b gk11) ?_
        rintro x12 _ rfl
        refine Sm.b (Sm.si gv8b gk11) ?_
        rintro w13 w13' gw13
        refine Sm.b (Sm.gr gw13 gt) ?_
        rintro k14 k14' gk14
        refine Sm.b (Sm.ai gw13 gk14) ?_
        rintro x15 _ rfl
        refine Sm.l ?_
        refine Sm.b (Sm.r) ?_
        rintro z17 _ rfl
        exact Sm.s (Rp.i rfl gw13)
      · exact Sm.s (Rp.i rfl gv8b)
set_option maxHeartbeats 2000000 in
theorem y_X11_setFinal {t t' : Nat} {a1 : Int32} {a2 : Int32} {a3 : Int32} {h h' : tq_H} (gt : (Rr r d) t t') (gh : (Em r d W0 H0 al) h h') : Sm (Rp Eq (Em r d W0 H0 al)) (f_X11_setFinal t a1 a2 a3 h) (f_X11_setFinal t' a1 a2 a3 h') := by
  unfold f_X11_setFinal
  refine Sm.b (y_X11_isType gh) ?_
  rintro v1 _ rfl
  refine Sm.b (R := Eq) ?_ ?_
  · refine Sm.i ?_ ?_
    · exact Sm.s rfl
    · refine Sm.b (y_X11_isState gh) ?_
      rintro v2 _ rfl
      refine Sm.i ?_ ?_
      · exact Sm.s rfl
      · refine Sm.b (Sm.gi gh gt) ?_
        rintro x3 _ rfl
        refine Sm.i ?_ ?_
        · exact Sm.s rfl
        · exact Sm.s rfl
  · rintro p4 _ rfl
    refine Sm.b (Sm.is gh gt) ?_
    intro _ _ _
    refine Sm.b (y_X11_refused gt gh) ?_
    rintro ⟨v5a, v5b⟩ ⟨_, v5b'⟩ ⟨rfl, gv5b⟩
    refine Sm.i ?_ ?_
    · refine Sm.b (Sm.gr gv5b gt) ?_
      rintro k7 k7' gk7
      refine Sm.b (Sm.ai gv5b gk7) ?_
      rintro x8 _ rfl
      refine Sm.l ?_
      refine Sm.b (Sm.gr gv5b gt) ?_
      rintro k10 k10' gk10
      refine Sm.b (R := Eq) ?_ ?_
      · refine Sm.i ?_ ?_
        · refine Sm.b (Sm.gr gv5b gt) ?_
          rintro k11 k11' gk11
          refine Sm.b (Sm.ai gv5b gk11) ?_
          rintro x12 _ rfl
          exact Sm.s rfl
        · refine Sm.b (Sm.gr gv5b gt) ?_
          rintro k13 k13' gk13
          refine Sm.b (Sm.ai gv5b gk13) ?_
          rintro x14 _ rfl
          exact Sm.s rfl
      · rintro p15 _ rfl
        refine Sm.b (Sm.si gv5b gk10) ?_
        rintro w16 w16' gw16
        refine Sm.b (Sm.r) ?_
        rintro z17 _ rfl
        exact Sm.s (Rp.i rfl gw16)
    · exact Sm.s (Rp.i rfl gv5b)
set_option maxHeartbeats 2000000 in
theorem y_X11_allowTexts {t t' : Nat} {a1 : Int32} {a2 : Int32} {h h' : tq_H} (gt : (Rr r d) t t') (gh : (Em r d W0 H0 al) h h') : Sm (Rp Eq (Em r d W0 H0 al)) (f_X11_allowTexts t a1 a2 h) (f_X11_allowTexts t' a1 a2 h') := by
  unfold f_X11_allowTexts
  refine Sm.b (y_X11_isType gh) ?_
  rintro v1 _ rfl
  refine Sm.b (R := Eq) ?_ ?_
  · refine Sm.i ?_ ?_
    · exact Sm.s rfl
    · refine Sm.b (Sm.gi gh gt) ?_
      rintro x2 _ rfl
      refine Sm.i ?_ ?_
      · exact Sm.s rfl
      · exact Sm.s rfl
  · rintro p3 _ rfl
    refine Sm.b (Sm.is gh gt) ?_
    intro _ _ _
    refine Sm.b (y_X11_refused gt gh) ?_
    rintro ⟨v4a, v4b⟩ ⟨_, v4b'⟩ ⟨rfl, gv4b⟩
    refine Sm.i ?_ ?_
    · refine Sm.b (Sm.gr gv4b gt) ?_
      rintro k6 k6' gk6
      refine Sm.b (Sm.az gv4b gk6) ?_
      rintro x7 _ rfl
      refine Sm.b (Sm.gr gv4b gt) ?_
      rintro k8 k8' gk8
      refine Sm.b (Sm.sz gv4b gk8) ?_
      rintro w9 w9' gw9
      refine Sm.b (Sm.r) ?_
      rintro z10 _ rfl
      exact Sm.s (Rp.i rfl gw9)
    · exact Sm.s (Rp.i rfl gv4b)
set_option maxHeartbeats 2000000 in
theorem y_X11_attribute {t t' : Nat} {a1 : Int32} {a2 : Int32} {a3 : Int32} {h h' : tq_H} (gt : (Rr r d) t t') (gh : (Em r d W0 H0 al) h h') : Sm (Rp Eq (Em r d W0 H0 al)) (f_X11_attribute t a1 a2 a3 h) (f_X11_attribute t' a1 a2 a3 h') := by
  unfold f_X11_attribute
  refine Sm.b (y_X11_in gh) ?_
  rintro v1 _ rfl
  refine Sm.b (R := Eq) ?_ ?_
  · refine Sm.i ?_ ?_
    · exact Sm.s rfl
    · refine Sm.b (y_X11_in gh) ?_
      rintro v2 _ rfl
      refine Sm.i ?_ ?_
      · exact Sm.s rfl
      · exact Sm.s rfl
  · rintro p3 _ rfl
    refine Sm.b (y_X11_isType gh) ?_
    rintro v4 _ rfl
    refine Sm.b (R := Eq) ?_ ?_
    · refine Sm.i ?_ ?_
      · exact Sm.s rfl
      · refine Sm.i ?_ ?_
        · exact Sm.s rfl
        · refine Sm.b (Sm.gi gh gt) ?_
          rintro x5 _ rfl
          refine Sm.i ?_ ?_
          · exact Sm.s rfl
          · exact Sm.s rfl
    · rintro p6 _ rfl
      refine Sm.b (Sm.is gh gt) ?_
      intro _ _ _
      refine Sm.b (y_X11_refused gt gh) ?_
      rintro ⟨v7a, v7b⟩ ⟨_, v7b'⟩ ⟨rfl, gv7b⟩
      refine Sm.i ?_ ?_
      · refine Sm.b (Sm.gr gv7b gt) ?_
        rintro k9 k9' gk9
        refine Sm.b (Sm.ai gv7b gk9) ?_
        rintro x10 _ rfl
        refine Sm.b (Sm.gr gv7b gt) ?_
        rintro k11 k11' gk11
        refine Sm.b (Sm.si gv7b gk11) ?_
        rintro w12 w12' gw12
        exact Sm.s (Rp.i rfl gw12)
      · exact Sm.s (Rp.i rfl gv7b)
set_option maxHeartbeats 2000000 in
theorem y_X11_setStrict {t t' : Nat} {a1 : Int32} {h h' : tq_H} (gt : (Rr r d) t t') (gh : (Em r d W0 H0 al) h h') : Sm (Rp Eq (Em r d W0 H0 al)) (f_X11_setStrict t a1 h) (f_X11_setStrict t' a1 h') := by
  unfold f_X11_setStrict
  refine Sm.b (R := (Rp Eq (Em r d W0 H0 al))) ?_ ?_
  · refine Sm.i ?_ ?_
    · exact Sm.s (Rp.i rfl gh)
    · refine Sm.b (Sm.is gh gt) ?_
      intro _ _ _
      refine Sm.b (y_X11_isRight gt gh) ?_
      rintro ⟨v1a, v1b⟩ ⟨_, v1b'⟩ ⟨rfl, gv1b⟩
      refine Sm.i ?_ ?_
      · exact Sm.s (Rp.i rfl gv1b)
      · exact Sm.s (Rp.i rfl gv1b)
  · rintro ⟨p3a, p3b⟩ ⟨_, p3b'⟩ ⟨rfl, gp3b⟩
    refine Sm.b (Sm.is gp3b gt) ?_
    intro _ _ _
    refine Sm.b (y_X11_refused gt gp3b) ?_
    rintro ⟨v4a, v4b⟩ ⟨_, v4b'⟩ ⟨rfl, gv4b⟩
    refine Sm.i ?_ ?_
    · refine Sm.b (Sm.gi gv4b gt) ?_
      rintro x6 _ rfl
      refine Sm.b (Sm.r) ?_
      rintro z8 _ rfl
      refine Sm.b (Sm.pf gv4b gt (okV_i _)) ?_
      rintro w7 w7' gw7
      refine Sm.b (Sm.r) ?_
      rintro z9 _ rfl
      exact Sm.s (Rp.i rfl gw7)
    · exact Sm.s (Rp.i rfl gv4b)
set_option maxHeartbeats 2000000 in
theorem y_X11_isValid {t t' : Nat} {h h' : tq_H} (gt : (Rr r d) t t') (gh : (Em r d W0 H0 al) h h') : Sm (Rp Eq (Em r d W0 H0 al)) (f_X11_isValid t h) (f_X11_isValid t' h') := by
  unfold f_X11_isValid
  refine Sm.b (Sm.pf gh gt (okV_i _)) ?_
  rintro w1 w1' gw1
  refine Sm.b (Sm.is gw1 gt) ?_
  intro _ _ _
  refine Sm.b (y_X11_isRight gt gw1) ?_
  rintro ⟨v2a, v2b⟩ ⟨_, v2b'⟩ ⟨rfl, gv2b⟩
  refine Sm.b (Sm.r) ?_
  rintro z4 _ rfl
  exact Sm.s (Rp.i rfl gv2b)
set_option maxHeartbeats 2000000 in
theorem y_X11_types {t t' : Nat} {a1 : Int32} {h h' : tq_H} (gt : (Rr r d) t t') (gh : (Em r d W0 H0 al) h h') : Sm (Rp Eq (Em r d W0 H0 al)) (f_X11_types t a1 h) (f_X11_types t' a1 h') := by
  unfold f_X11_types
  refine Sm.b (Sm.is gh gt) ?_
  intro _ _ _
  refine Sm.b (y_X11_noNode gt gh) ?_
  rintro ⟨v1a, v1b⟩ ⟨_, v1b'⟩ ⟨rfl, gv1b⟩
  refine Sm.i ?_ ?_
  · refine Sm.b (Sm.is gv1b gt) ?_
    intro _ _ _
    refine Sm.b (y_X11_findTypes gt gv1b) ?_
    rintro v3 v3' gv3
    refine Sm.b (Sm.gr gv3 gt) ?_
    rintro k5 k5' gk5
    refine Sm.b (Sm.ai gv3 gk5) ?_
    rintro x6 _ rfl
    exact Sm.s (Rp.i rfl gv3)
  · exact Sm.s (Rp.i rfl gv1b)
set_option maxHeartbeats 2000000 in
theorem y_X11_canHave_b13 {i0 i0' : Nat} {i1 : Int32} {i3 : Int32} {hh hh' : tq_H} (gi0 : (Rr r d) i0 i0') (ghh : (Em r d W0 H0 al) hh hh') : ∀ s s', (Rp Eq Eq) s s' → Sm (Ru (Rp Eq Eq) Eq) (f_X11_canHave_b13 i0 i1 i3 hh s) (f_X11_canHave_b13 i0' i1 i3 hh' s') := by
  rintro ⟨y2, y4⟩ ⟨_, _⟩ ⟨rfl, rfl⟩
  dsimp only [f_X11_canHave_b13]
  refine Sm.i ?_ ?_
  · exact Sm.s (Ru.r rfl)
  · refine Sm.i ?_ ?_
    · refine Sm.b (Sm.gr ghh gi0) ?_
      rintro k1 k1' gk1
      refine Sm.b (Sm.ai ghh gk1) ?_
      rintro x2 _ rfl
      refine Sm.l ?_
      refine Sm.l ?_
      refine Sm.l ?_
      exact Sm.s (Ru.l (Rp.i rfl rfl))
    · exact Sm.s (Ru.r rfl)
set_option maxHeartbeats 2000000 in
theorem y_X11_canHave_b67 {i0 i0' : Nat} {i1 : Int32} {i3 : Int32} {hh hh' : tq_H} (gi0 : (Rr r d) i0 i0') (ghh : (Em r d W0 H0 al) hh hh') : ∀ s s', (Rp Eq Eq) s s' → Sm (Ru (Rp Eq Eq) Eq) (f_X11_canHave_b67 i0 i1 i3 hh s) (f_X11_canHave_b67 i0' i1 i3 hh' s') := by
  rintro ⟨y2, y4⟩ ⟨_, _⟩ ⟨rfl, rfl⟩
  dsimp only [f_X11_canHave_b67]
  refine Sm.i ?_ ?_
  · exact Sm.s (Ru.r rfl)
  · refine Sm.i ?_ ?_
    · refine Sm.b (Sm.gr ghh gi0) ?_
      rintro k7 k7' gk7
      refine Sm.b (Sm.ai ghh gk7) ?_
      rintro x8 _ rfl
      refine Sm.l ?_
      refine Sm.l ?_
      refine Sm.l ?_
      exact Sm.s (Ru.l (Rp.i rfl rfl))
    · exact Sm.s (Ru.r rfl)
set_option maxHeartbeats 2000000 in
theorem y_X11_canHave_b4 {i0 i0' : Nat} {i1 : Int32} {hh hh' : tq_H} (gi0 : (Rr r d) i0 i0') (ghh : (Em r d W0 H0 al) hh hh') : ∀ s s', (Rp Eq Eq) s s' → Sm (Ru (Rp Eq Eq) Eq) (f_X11_canHave_b4 i0 i1 hh s) (f_X11_canHave_b4 i0' i1 hh' s') := by
  rintro ⟨y2, y3⟩ ⟨_, _⟩ ⟨rfl, rfl⟩
  dsimp only [f_X11_canHave_b4]
  refine Sm.i ?_ ?_
  · exact Sm.s (Ru.r rfl)
  · refine Sm.b (Sm.w (y_X11_canHave_b13 gi0 ghh) tq_N (Rp.i rfl rfl)) ?_
    rintro o6 _ rfl
    refine Sm.b (Sm.w (y_X11_canHave_b67 gi0 ghh) tq_N (Rp.i rfl rfl)) ?_
    rintro o12 _ rfl
    refine Sm.b (R := Eq) ?_ ?_
    · refine Sm.i ?_ ?_
      · refine Sm.b (Sm.gr ghh gi0) ?_
        rintro k13 k13' gk13
        refine Sm.b (Sm.az ghh gk13) ?_
        rintro x14 _ rfl
        refine Sm.i ?_ ?_
        · exact Sm.s rfl
        · exact Sm.s rfl
      · exact Sm.s rfl
    · rintro p15 _ rfl
      refine Sm.l ?_
      refine Sm.l ?_
      exact Sm.s (Ru.l (Rp.i rfl rfl))
set_option maxHeartbeats 2000000 in
theorem y_X11_canHave {t t' : Nat} {a1 : Int32} {h h' : tq_H} (gt : (Rr r d) t t') (gh : (Em r d W0 H0 al) h h') : Sm Eq (f_X11_canHave t a1 h) (f_X11_canHave t' a1 h') := by
  unfold f_X11_canHave
  refine Sm.b (Sm.w (y_X11_canHave_b4 gt gh) tq_N (Rp.i rfl rfl)) ?_
  rintro o18 _ rfl
  exact Sm.s rfl
set_option maxHeartbeats 2000000 in
theorem y_X11_allTypes_b4 {i0 i0' : Nat} {hh hh' : tq_H} (gi0 : (Rr r d) i0 i0') (ghh : (Em r d W0 H0 al) hh hh') : ∀ s s', (Rp Eq Eq) s s' → Sm (Ru (Rp Eq Eq) Eq) (f_X11_allTypes_b4 i0 hh s) (f_X11_allTypes_b4 i0' hh' s') := by
  rintro ⟨y1, y2⟩ ⟨_, _⟩ ⟨rfl, rfl⟩
  dsimp only [f_X11_allTypes_b4]
  refine Sm.i ?_ ?_
  · exact Sm.s (Ru.r rfl)
  · refine Sm.b (Sm.is ghh gi0) ?_
    intro _ _ _
    refine Sm.b (y_X11_canHave gi0 ghh) ?_
    rintro v1 _ rfl
    refine Sm.l ?_
    refine Sm.l ?_
    exact Sm.s (Ru.l (Rp.i rfl rfl))
set_option maxHeartbeats 2000000 in
theorem y_X11_allTypes {t t' : Nat} {h h' : tq_H} (gt : (Rr r d) t t') (gh : (Em r d W0 H0 al) h h') : Sm Eq (f_X11_allTypes t h) (f_X11_allTypes t' h') := by
  unfold f_X11_allTypes
  refine Sm.b (Sm.w (y_X11_allTypes_b4 gt gh) tq_N (Rp.i rfl rfl)) ?_
  rintro o5 _ rfl
  exact Sm.s rfl
set_option maxHeartbeats 2000000 in
theorem y_X11_childrenOf {t t' : Nat} {a1 : Int32} {h h' : tq_H} (gt : (Rr r d) t t') (gh : (Em r d W0 H0 al) h h') : Sm Eq (f_X11_childrenOf t a1 h) (f_X11_childrenOf t' a1 h') := by
  unfold f_X11_childrenOf
  refine Sm.b (Sm.is gh gt) ?_
  intro _ _ _
  refine Sm.b (y_X11_canHave gt gh) ?_
  rintro v1 _ rfl
  exact Sm.s rfl
set_option maxHeartbeats 2000000 in
theorem y_X11_parentsOf_b5 {i0 i0' : Nat} {i1 : Int32} {i2 : Int32} {hh hh' : tq_H} (gi0 : (Rr r d) i0 i0') (ghh : (Em r d W0 H0 al) hh hh') : ∀ s s', (Rp Eq Eq) s s' → Sm (Ru (Rp Eq Eq) Eq) (f_X11_parentsOf_b5 i0 i1 i2 hh s) (f_X11_parentsOf_b5 i0' i1 i2 hh' s') := by
  rintro ⟨y3, y4⟩ ⟨_, _⟩ ⟨rfl, rfl⟩
  dsimp only [f_X11_parentsOf_b5]
  refine Sm.i ?_ ?_
  · exact Sm.s (Ru.r rfl)
  · refine Sm.b (R := Eq) ?_ ?_
    · refine Sm.i ?_ ?_
      · refine Sm.b (Sm.is ghh gi0) ?_
        intro _ _ _
        refine Sm.b (y_X11_canHave gi0 ghh) ?_
        rintro v1 _ rfl
        refine Sm.i ?_ ?_
        · exact Sm.s rfl
        · exact Sm.s rfl
      · exact Sm.s rfl
    · rintro p3 _ rfl
      refine Sm.l ?_
      refine Sm.l ?_
      exact Sm.s (Ru.l (Rp.i rfl rfl))
set_option maxHeartbeats 2000000 in
theorem y_X11_parentsOf {t t' : Nat} {a1 : Int32} {a2 : Int32} {h h' : tq_H} (gt : (Rr r d) t t') (gh : (Em r d W0 H0 al) h h') : Sm Eq (f_X11_parentsOf t a1 a2 h) (f_X11_parentsOf t' a1 a2 h') := by
  unfold f_X11_parentsOf
  refine Sm.b (Sm.w (y_X11_parentsOf_b5 gt gh) tq_N (Rp.i rfl rfl)) ?_
  rintro o6 _ rfl
  exact Sm.s rfl
set_option maxHeartbeats 2000000 in
theorem y_X11_cameBy_b102 {i0 i0' : Nat} {i1 : Int32} {i4 : Int32} {hh hh' : tq_H} (gi0 : (Rr r d) i0 i0') (ghh : (Em r d W0 H0 al) hh hh') : ∀ s s', (Rp Eq (Rp Eq Eq)) s s' → Sm (Ru (Rp Eq (Rp Eq Eq)) Eq) (f_X11_cameBy_b102 i0 i1 i4 hh s) (f_X11_cameBy_b102 i0' i1 i4 hh' s') := by
  rintro ⟨y5, ⟨y6, y7⟩⟩ ⟨_, ⟨_, _⟩⟩ ⟨rfl, ⟨rfl, rfl⟩⟩
  dsimp only [f_X11_cameBy_b102]
  refine Sm.i ?_ ?_
  · exact Sm.s (Ru.r rfl)
  · refine Sm.b (Sm.is ghh gi0) ?_
    intro _ _ _
    refine Sm.b (y_X11_childrenOf gi0 ghh) ?_
    rintro v6 _ rfl
    refine Sm.l ?_
    refine Sm.l ?_
    exact Sm.s (Ru.l (Rp.i rfl (Rp.i rfl rfl)))
set_option maxHeartbeats 2000000 in
theorem y_X11_cameBy_b102_2 {i0 i0' : Nat} {i1 : Int32} {i4 : Int32} {hh hh' : tq_H} (gi0 : (Rr r d) i0 i0') (ghh : (Em r d W0 H0 al) hh hh') : ∀ s s', (Rp Eq (Rp Eq Eq)) s s' → Sm (Ru (Rp Eq (Rp Eq Eq)) Eq) (f_X11_cameBy_b102_2 i0 i1 i4 hh s) (f_X11_cameBy_b102_2 i0' i1 i4 hh' s') := by
  rintro ⟨y5, ⟨y6, y7⟩⟩ ⟨_, ⟨_, _⟩⟩ ⟨rfl, ⟨rfl, rfl⟩⟩
  dsimp only [f_X11_cameBy_b102_2]
  refine Sm.i ?_ ?_
  · exact Sm.s (Ru.r rfl)
  · refine Sm.b (Sm.is ghh gi0) ?_
    intro _ _ _
    refine Sm.b (y_X11_childrenOf gi0 ghh) ?_
    rintro v13 _ rfl
    refine Sm.l ?_
    refine Sm.l ?_
    exact Sm.s (Ru.l (Rp.i rfl (Rp.i rfl rfl)))
set_option maxHeartbeats 2000000 in
theorem y_X11_cameBy_b167 {i0 i0' : Nat} {i4 : Int32} {hh hh' : tq_H} (gi0 : (Rr r d) i0 i0') (ghh : (Em r d W0 H0 al) hh hh') : ∀ s s', (Rp Eq (Rp Eq Eq)) s s' → Sm (Ru (Rp Eq (Rp Eq Eq)) Eq) (f_X11_cameBy_b167 i0 i4 hh s) (f_X11_cameBy_b167 i0' i4 hh' s') := by
  rintro ⟨y5, ⟨y6, y7⟩⟩ ⟨_, ⟨_, _⟩⟩ ⟨rfl, ⟨rfl, rfl⟩⟩
  dsimp only [f_X11_cameBy_b167]
  refine Sm.i ?_ ?_
  · exact Sm.s (Ru.r rfl)
  · refine Sm.b (Sm.is ghh gi0) ?_
    intro _ _ _
    refine Sm.b (y_X11_parentsOf gi0 ghh) ?_
    rintro v20 _ rfl
    refine Sm.l ?_
    refine Sm.l ?_
    exact Sm.s (Ru.l (Rp.i rfl (Rp.i rfl rfl)))
set_option maxHeartbeats 2000000 in
theorem y_X11_cameBy_b167_2 {i0 i0' : Nat} {i4 : Int32} {hh hh' : tq_H} (gi0 : (Rr r d) i0 i0') (ghh : (Em r d W0 H0 al) hh hh') : ∀ s s', (Rp Eq (Rp Eq Eq)) s s' → Sm (Ru (Rp Eq (Rp Eq Eq)) Eq) (f_X11_cameBy_b167_2 i0 i4 hh s) (f_X11_cameBy_b167_2 i0' i4 hh' s') := by
  rintro ⟨y5, ⟨y6, y7⟩⟩ ⟨_, ⟨_, _⟩⟩ ⟨rfl, ⟨rfl, rfl⟩⟩
  dsimp only [f_X11_cameBy_b167_2]
  refine Sm.i ?_ ?_
  · exact Sm.s (Ru.r rfl)
  · refine Sm.b (Sm.is ghh gi0) ?_
    intro _ _ _
    refine Sm.b (y_X11_parentsOf gi0 ghh) ?_
    rintro v26 _ rfl
    refine Sm.l ?_
    refine Sm.l ?_
    exact Sm.s (Ru.l (Rp.i rfl (Rp.i rfl rfl)))
set_option maxHeartbeats 2000000 in
theorem y_X11_cameBy_b247 {i0 i0' : Nat} {i2 : Int32} {hh hh' : tq_H} (gi0 : (Rr r d) i0 i0') (ghh : (Em r d W0 H0 al) hh hh') : ∀ s s', (Rp Eq (Rp Eq Eq)) s s' → Sm (Ru (Rp Eq (Rp Eq Eq)) Eq) (f_X11_cameBy_b247 i0 i2 hh s) (f_X11_cameBy_b247 i0' i2 hh' s') := by
  rintro ⟨y5, ⟨y6, y7⟩⟩ ⟨_, ⟨_, _⟩⟩ ⟨rfl, ⟨rfl, rfl⟩⟩
  dsimp only [f_X11_cameBy_b247]
  refine Sm.i ?_ ?_
  · exact Sm.s (Ru.r rfl)
  · refine Sm.b (Sm.gr ghh gi0) ?_
    rintro k43 k43' gk43
    refine Sm.b (Sm.ai ghh gk43) ?_
    rintro x44 _ rfl
    refine Sm.l ?_
    refine Sm.l ?_
    exact Sm.s (Ru.l (Rp.i rfl (Rp.i rfl rfl)))
set_option maxHeartbeats 2000000 in
theorem y_X11_cameBy {t t' : Nat} {a1 : Int32} {a2 : Int32} {a3 : Int32} {a4 : Int32} {h h' : tq_H} (gt : (Rr r d) t t') (gh : (Em r d W0 H0 al) h h') : Sm Eq (f_X11_cameBy t a1 a2 a3 a4 h) (f_X11_cameBy t' a1 a2 a3 a4 h') := by
  unfold f_X11_cameBy
  refine Sm.i ?_ ?_
  · exact Sm.s rfl
  · refine Sm.i ?_ ?_
    · refine Sm.b (Sm.is gh gt) ?_
      intro _ _ _
      refine Sm.b (y_X11_childrenOf gt gh) ?_
      rintro v1 _ rfl
      exact Sm.s rfl
    · refine Sm.i ?_ ?_
      · refine Sm.b (Sm.is gh gt) ?_
        intro _ _ _
        refine Sm.b (y_X11_parentsOf gt gh) ?_
        rintro v3 _ rfl
        exact Sm.s rfl
      · refine Sm.i ?_ ?_
        · refine Sm.l ?_
          refine Sm.b (Sm.w (y_X11_cameBy_b102 gt gh) tq_N (Rp.i rfl (Rp.i rfl rfl))) ?_
          rintro o10 _ rfl
          refine Sm.l ?_
          exact Sm.s rfl
        · refine Sm.i ?_ ?_
          · refine Sm.l ?_
            refine Sm.b (Sm.w (y_X11_cameBy_b102_2 gt gh) tq_N (Rp.i rfl (Rp.i rfl rfl))) ?_
            rintro o17 _ rfl
            refine Sm.l ?_
            exact Sm.s rfl
          · refine Sm.i ?_ ?_
            · refine Sm.l ?_
              refine Sm.b (Sm.w (y_X11_cameBy_b167 gt gh) tq_N (Rp.i rfl (Rp.i rfl rfl))) ?_
              rintro o24 _ rfl
              exact Sm.s rfl
            · refine Sm.i ?_ ?_
              · refine Sm.l ?_
                refine Sm.b (Sm.w (y_X11_cameBy_b167_2 gt gh) tq_N (Rp.i rfl (Rp.i rfl rfl))) ?_
                rintro o30 _ rfl
                exact Sm.s rfl
              · refine Sm.i ?_ ?_
                · refine Sm.l ?_
                  exact Sm.s rfl
                · refine Sm.i ?_ ?_
                  · refine Sm.l ?_
                    exact Sm.s rfl
                  · refine Sm.i ?_ ?_
                    · refine Sm.b (Sm.is gh gt) ?_
                      intro _ _ _
                      refine Sm.b (y_X11_parentsOf gt gh) ?_
                      rintro v33 _ rfl
                      refine Sm.b (Sm.is gh gt) ?_
                      intro _ _ _
                      refine Sm.b (y_X11_childrenOf gt gh) ?_
                      rintro v35 _ rfl
                      exact Sm.s rfl
                    · refine Sm.i ?_ ?_
                      · refine Sm.b (Sm.is gh gt) ?_
                        intro _ _ _
                        refine Sm.b (y_X11_parentsOf gt gh) ?_
                        rintro v37 _ rfl
                        refine Sm.b (Sm.is gh gt) ?_
                        intro _ _ _
                        refine Sm.b (y_X11_childrenOf gt gh) ?_
                        rintro v39 _ rfl
                        exact Sm.s rfl
                      · refine Sm.i ?_ ?_
                        · refine Sm.b (Sm.is gh gt) ?_
                          intro _ _ _
                          refine Sm.b (y_X11_canHave gt gh) ?_
                          rintro v41 _ rfl
                          exact Sm.s rfl
                        · refine Sm.b (Sm.w (y_X11_cameBy_b247 gt gh) tq_N (Rp.i rfl (Rp.i rfl rfl))) ?_
                          rintro o47 _ rfl
                          exact Sm.s rfl
set_option maxHeartbeats 2000000 in
theorem y_X11_left_b5 {i0 i0' : Nat} {i1 : Int32} {i2 : Int32} {hh hh' : tq_H} (gi0 : (Rr r d) i0 i0') (ghh : (Em r d W0 H0 al) hh hh') : ∀ s s', (Rp Eq Eq) s s' → Sm (Ru (Rp Eq Eq) Eq) (f_X11_left_b5 i0 i1 i2 hh s) (f_X11_left_b5 i0' i1 i2 hh' s') := by
  rintro ⟨y3, y4⟩ ⟨_, _⟩ ⟨rfl, rfl⟩
  dsimp only [f_X11_left_b5]
  refine Sm.i ?_ ?_
  · exact Sm.s (Ru.r rfl)
  · refine Sm.b (R := Eq) ?_ ?_
    · refine Sm.i ?_ ?_
      · exact Sm.s rfl
      · refine Sm.b (Sm.gr ghh gi0) ?_
        rintro k1 k1' gk1
        refine Sm.b (Sm.ai ghh gk1) ?_
        rintro x2 _ rfl
        refine Sm.i ?_ ?_
        · exact Sm.s rfl
        · exact Sm.s rfl
    · rintro p3 _ rfl
      refine Sm.l ?_
      refine Sm.l ?_
      exact Sm.s (Ru.l (Rp.i rfl rfl))
set_option maxHeartbeats 2000000 in
theorem y_X11_left {t t' : Nat} {a1 : Int32} {a2 : Int32} {h h' : tq_H} (gt : (Rr r d) t t') (gh : (Em r d W0 H0 al) h h') : Sm Eq (f_X11_left t a1 a2 h) (f_X11_left t' a1 a2 h') := by
  unfold f_X11_left
  refine Sm.b (Sm.w (y_X11_left_b5 gt gh) tq_N (Rp.i rfl rfl)) ?_
  rintro o6 _ rfl
  refine Sm.l ?_
  exact Sm.s rfl
set_option maxHeartbeats 2000000 in
theorem y_X11_infer_b54 {i0 i0' : Nat} {i1 : Int32} {i2 : Int32} {i3 : Int32} {i4 : Int32} {hh hh' : tq_H} (gi0 : (Rr r d) i0 i0') (ghh : (Em r d W0 H0 al) hh hh') : ∀ s s', (Rp Eq Eq) s s' → Sm (Ru (Rp Eq Eq) Eq) (f_X11_infer_b54 i0 i1 i2 i3 i4 hh s) (f_X11_infer_b54 i0' i1 i2 i3 i4 hh' s') := by
  rintro ⟨y5, y6⟩ ⟨_, _⟩ ⟨rfl, rfl⟩
  dsimp only [f_X11_infer_b54]
  refine Sm.b (Sm.gr ghh gi0) ?_
  rintro k9 k9' gk9
  refine Sm.b (Sm.ai ghh gk9) ?_
  rintro x10 _ rfl
  refine Sm.i ?_ ?_
  · exact Sm.s (Ru.r rfl)
  · refine Sm.b (Sm.gr ghh gi0) ?_
    rintro k11 k11' gk11
    refine Sm.b (Sm.ai ghh gk11) ?_
    rintro x12 _ rfl
    refine Sm.b (Sm.gr ghh gi0) ?_
    rintro k13 k13' gk13
    refine Sm.b (Sm.ai ghh gk13) ?_
    rintro x14 _ rfl
    refine Sm.b (Sm.gr ghh gi0) ?_
    rintro k15 k15' gk15
    refine Sm.b (Sm.ai ghh gk15) ?_
    rintro x16 _ rfl
    refine Sm.b (Sm.is ghh gi0) ?_
    intro _ _ _
    refine Sm.b (y_X11_cameBy gi0 ghh) ?_
    rintro v17 _ rfl
    refine Sm.b (Sm.is ghh gi0) ?_
    intro _ _ _
    refine Sm.b (y_X11_left gi0 ghh) ?_
    rintro v19 _ rfl
    refine Sm.l ?_
    exact Sm.s (Ru.l (Rp.i rfl rfl))
set_option maxHeartbeats 2000000 in
theorem y_X11_infer_b37 {i0 i0' : Nat} {i1 : Int32} {i2 : Int32} {i3 : Int32} (gi0 : (Rr r d) i0 i0') : ∀ s s', (Rp Eq (Em r d W0 H0 al)) s s' → Sm (Ru (Rp Eq (Em r d W0 H0 al)) (Em r d W0 H0 al)) (f_X11_infer_b37 i0 i1 i2 i3 s) (f_X11_infer_b37 i0' i1 i2 i3 s') := by
  rintro ⟨y4, hh⟩ ⟨_, hh'⟩ ⟨rfl, ghh⟩
  dsimp only [f_X11_infer_b37]
  refine Sm.i ?_ ?_
  · exact Sm.s (Ru.r ghh)
  · refine Sm.l ?_
    refine Sm.b (Sm.w (y_X11_infer_b54 gi0 ghh) tq_N (Rp.i rfl rfl)) ?_
    rintro o22 _ rfl
    refine Sm.b (Sm.gr ghh gi0) ?_
    rintro k23 k23' gk23
    refine Sm.b (Sm.si ghh gk23) ?_
    rintro w24 w24' gw24
    refine Sm.l ?_
    exact Sm.s (Ru.l (Rp.i rfl gw24))
set_option maxHeartbeats 2000000 in
theorem y_X11_infer_b29 {i0 i0' : Nat} {i1 : Int32} {i2 : Int32} (gi0 : (Rr r d) i0 i0') : ∀ s s', (Rp Eq (Em r d W0 H0 al)) s s' → Sm (Ru (Rp Eq (Em r d W0 H0 al)) (Em r d W0 H0 al)) (f_X11_infer_b29 i0 i1 i2 s) (f_X11_infer_b29 i0' i1 i2 s') := by
  rintro ⟨y3, hh⟩ ⟨_, hh'⟩ ⟨rfl, ghh⟩
  dsimp only [f_X11_infer_b29]
  refine Sm.i ?_ ?_
  · exact Sm.s (Ru.r ghh)
  · refine Sm.b (Sm.w (y_X11_infer_b37 gi0) tq_N (Rp.i rfl ghh)) ?_
    rintro o26 o26' go26
    refine Sm.l ?_
    exact Sm.s (Ru.l (Rp.i rfl go26))
set_option maxHeartbeats 2000000 in
theorem y_X11_infer {t t' : Nat} {a1 : Int32} {h h' : tq_H} (gt : (Rr r d) t t') (gh : (Em r d W0 H0 al) h h') : Sm (Rp Eq (Em r d W0 H0 al)) (f_X11_infer t a1 h) (f_X11_infer t' a1 h') := by
  unfold f_X11_infer
  refine Sm.b (Sm.is gh gt) ?_
  intro _ _ _
  refine Sm.b (y_X11_isPath gt gh) ?_
  rintro v1 _ rfl
  refine Sm.l ?_
  refine Sm.b (Sm.is gh gt) ?_
  intro _ _ _
  refine Sm.b (y_X11_refused gt gh) ?_
  rintro ⟨v4a, v4b⟩ ⟨_, v4b'⟩ ⟨rfl, gv4b⟩
  refine Sm.i ?_ ?_
  · refine Sm.b (Sm.is gv4b gt) ?_
    intro _ _ _
    refine Sm.b (y_X11_allTypes gt gv4b) ?_
    rintro v6 _ rfl
    refine Sm.b (Sm.w (y_X11_infer_b29 gt) tq_N (Rp.i rfl gv4b)) ?_
    rintro o28 o28' go28
    refine Sm.b (Sm.gr go28 gt) ?_
    rintro k29 k29' gk29
    refine Sm.b (Sm.ai go28 gk29) ?_
    rintro x30 _ rfl
    exact Sm.s (Rp.i rfl go28)
  · exact Sm.s (Rp.i rfl gv4b)
set_option maxHeartbeats 2000000 in
theorem y_X11_index {t t' : Nat} {a1 : Int32} {h h' : tq_H} (gt : (Rr r d) t t') (gh : (Em r d W0 H0 al) h h') : Sm (Rp Eq (Em r d W0 H0 al)) (f_X11_index t a1 h) (f_X11_index t' a1 h') := by
  unfold f_X11_index
  refine Sm.b (y_X11_in gh) ?_
  rintro v1 _ rfl
  refine Sm.l ?_
  refine Sm.b (Sm.is gh gt) ?_
  intro _ _ _
  refine Sm.b (y_X11_refused gt gh) ?_
  rintro ⟨v3a, v3b⟩ ⟨_, v3b'⟩ ⟨rfl, gv3b⟩
  refine Sm.i ?_ ?_
  · refine Sm.b (Sm.gr gv3b gt) ?_
    rintro k5 k5' gk5
    refine Sm.b (Sm.gr gv3b gt) ?_
    rintro k6 k6' gk6
    refine Sm.b (Sm.az gv3b gk6) ?_
    rintro x7 _ rfl
    refine Sm.l ?_
    refine Sm.b (Sm.sz gv3b gk5) ?_
    rintro w9 w9' gw9
    refine Sm.b (Sm.gr gw9 gt) ?_
    rintro k10 k10' gk10
    refine Sm.b (Sm.az gw9 gk10) ?_
    rintro x11 _ rfl
    refine Sm.b (Sm.r) ?_
    rintro z12 _ rfl
    exact Sm.s (Rp.i rfl gw9)
  · exact Sm.s (Rp.i rfl gv3b)
set_option maxHeartbeats 2000000 in
theorem y_X11_isNear_b6 {i0 i0' : Nat} {i1 : Int32} {hh hh' : tq_H} (gi0 : (Rr r d) i0 i0') (ghh : (Em r d W0 H0 al) hh hh') : ∀ s s', (Rp Eq Eq) s s' → Sm (Ru (Rp Eq Eq) Eq) (f_X11_isNear_b6 i0 i1 hh s) (f_X11_isNear_b6 i0' i1 hh' s') := by
  rintro ⟨y2, y3⟩ ⟨_, _⟩ ⟨rfl, rfl⟩
  dsimp only [f_X11_isNear_b6]
  refine Sm.b (Sm.gr ghh gi0) ?_
  rintro k2 k2' gk2
  refine Sm.b (Sm.ai ghh gk2) ?_
  rintro x3 _ rfl
  refine Sm.i ?_ ?_
  · exact Sm.s (Ru.r rfl)
  · refine Sm.b (R := Eq) ?_ ?_
    · refine Sm.i ?_ ?_
      · exact Sm.s rfl
      · refine Sm.b (Sm.gr ghh gi0) ?_
        rintro k4 k4' gk4
        refine Sm.b (Sm.ai ghh gk4) ?_
        rintro x5 _ rfl
        refine Sm.i ?_ ?_
        · refine Sm.b (Sm.gr ghh gi0) ?_
          rintro k6 k6' gk6
          refine Sm.b (Sm.ai ghh gk6) ?_
          rintro x7 _ rfl
          refine Sm.i ?_ ?_
          · exact Sm.s rfl
          · exact Sm.s rfl
        · refine Sm.b (Sm.gr ghh gi0) ?_
          rintro k8 k8' gk8
          refine Sm.b (Sm.ai ghh gk8) ?_
          rintro x9 _ rfl
          refine Sm.i ?_ ?_
          · refine Sm.b (Sm.gr ghh gi0) ?_
            rintro k10 k10' gk10
            refine Sm.b (Sm.ai ghh gk10) ?_
            rintro x11 _ rfl
            refine Sm.i ?_ ?_
            · exact Sm.s rfl
            · exact Sm.s rfl
          · exact Sm.s rfl
    · rintro p12 _ rfl
      refine Sm.l ?_
      exact Sm.s (Ru.l (Rp.i rfl rfl))
set_option maxHeartbeats 2000000 in
theorem y_X11_isNear {t t' : Nat} {a1 : Int32} {h h' : tq_H} (gt : (Rr r d) t t') (gh : (Em r d W0 H0 al) h h') : Sm Eq (f_X11_isNear t a1 h) (f_X11_isNear t' a1 h') := by
  unfold f_X11_isNear
  refine Sm.l ?_
  refine Sm.b (Sm.w (y_X11_isNear_b6 gt gh) tq_N (Rp.i rfl rfl)) ?_
  rintro o14 _ rfl
  refine Sm.b (Sm.r) ?_
  rintro z15 _ rfl
  exact Sm.s rfl
set_option maxHeartbeats 2000000 in
theorem y_X11_isStreamed_b73 {i0 i0' : Nat} {i1 : Int32} {i3 : Int32} {hh hh' : tq_H} (gi0 : (Rr r d) i0 i0') (ghh : (Em r d W0 H0 al) hh hh') : ∀ s s', (Rp Eq Eq) s s' → Sm (Ru (Rp Eq Eq) Eq) (f_X11_isStreamed_b73 i0 i1 i3 hh s) (f_X11_isStreamed_b73 i0' i1 i3 hh' s') := by
  rintro ⟨y2, y5⟩ ⟨_, _⟩ ⟨rfl, rfl⟩
  dsimp only [f_X11_isStreamed_b73]
  refine Sm.b (Sm.gr ghh gi0) ?_
  rintro k7 k7' gk7
  refine Sm.b (Sm.ai ghh gk7) ?_
  rintro x8 _ rfl
  refine Sm.i ?_ ?_
  · exact Sm.s (Ru.r rfl)
  · refine Sm.l ?_
    refine Sm.b (R := Eq) ?_ ?_
    · refine Sm.i ?_ ?_
      · exact Sm.s rfl
      · refine Sm.b (Sm.gr ghh gi0) ?_
        rintro k10 k10' gk10
        refine Sm.b (Sm.ai ghh gk10) ?_
        rintro x11 _ rfl
        refine Sm.i ?_ ?_
        · refine Sm.b (Sm.gr ghh gi0) ?_
          rintro k18 k18' gk18
          refine Sm.b (Sm.ai ghh gk18) ?_
          rintro x19 _ rfl
          refine Sm.i ?_ ?_
          · exact Sm.s rfl
          · exact Sm.s rfl
        · refine Sm.b (Sm.gr ghh gi0) ?_
          rintro k12 k12' gk12
          refine Sm.b (Sm.ai ghh gk12) ?_
          rintro x13 _ rfl
          refine Sm.i ?_ ?_
          · exact Sm.s rfl
          · refine Sm.b (Sm.gr ghh gi0) ?_
            rintro k14 k14' gk14
            refine Sm.b (Sm.ai ghh gk14) ?_
            rintro x15 _ rfl
            refine Sm.b (Sm.is ghh gi0) ?_
            intro _ _ _
            refine Sm.b (y_X11_isNear gi0 ghh) ?_
            rintro v16 _ rfl
            refine Sm.i ?_ ?_
            · exact Sm.s rfl
            · exact Sm.s rfl
    · rintro p20 _ rfl
      refine Sm.l ?_
      exact Sm.s (Ru.l (Rp.i rfl rfl))
set_option maxHeartbeats 2000000 in
theorem y_X11_isStreamed_b6 {i0 i0' : Nat} {i1 : Int32} {hh hh' : tq_H} (gi0 : (Rr r d) i0 i0') (ghh : (Em r d W0 H0 al) hh hh') : ∀ s s', (Rp Eq Eq) s s' → Sm (Ru (Rp Eq Eq) Eq) (f_X11_isStreamed_b6 i0 i1 hh s) (f_X11_isStreamed_b6 i0' i1 hh' s') := by
  rintro ⟨y2, y3⟩ ⟨_, _⟩ ⟨rfl, rfl⟩
  dsimp only [f_X11_isStreamed_b6]
  refine Sm.b (Sm.gr ghh gi0) ?_
  rintro k2 k2' gk2
  refine Sm.b (Sm.ai ghh gk2) ?_
  rintro x3 _ rfl
  refine Sm.i ?_ ?_
  · exact Sm.s (Ru.r rfl)
  · refine Sm.b (Sm.gr ghh gi0) ?_
    rintro k4 k4' gk4
    refine Sm.b (Sm.ai ghh gk4) ?_
    rintro x5 _ rfl
    refine Sm.l ?_
    refine Sm.b (Sm.w (y_X11_isStreamed_b73 gi0 ghh) tq_N (Rp.i rfl rfl)) ?_
    rintro o22 _ rfl
    refine Sm.l ?_
    exact Sm.s (Ru.l (Rp.i rfl rfl))
set_option maxHeartbeats 2000000 in
theorem y_X11_isStreamed {t t' : Nat} {a1 : Int32} {h h' : tq_H} (gt : (Rr r d) t t') (gh : (Em r d W0 H0 al) h h') : Sm Eq (f_X11_isStreamed t a1 h) (f_X11_isStreamed t' a1 h') := by
  unfold f_X11_isStreamed
  refine Sm.l ?_
  refine Sm.b (Sm.w (y_X11_isStreamed_b6 gt gh) tq_N (Rp.i rfl rfl)) ?_
  rintro o24 _ rfl
  refine Sm.b (Sm.r) ?_
  rintro z25 _ rfl
  exact Sm.s rfl
set_option maxHeartbeats 2000000 in
theorem y_X11_plan_b69 {i0 i0' : Nat} {i1 : Int32} {i2 : Int32} {hh hh' : tq_H} (gi0 : (Rr r d) i0 i0') (ghh : (Em r d W0 H0 al) hh hh') : ∀ s s', (Rp Eq (Rp Eq Eq)) s s' → Sm (Ru (Rp Eq (Rp Eq Eq)) (Rp Eq Eq)) (f_X11_plan_b69 i0 i1 i2 hh s) (f_X11_plan_b69 i0' i1 i2 hh' s') := by
  rintro ⟨y3, ⟨y4, y5⟩⟩ ⟨_, ⟨_, _⟩⟩ ⟨rfl, ⟨rfl, rfl⟩⟩
  dsimp only [f_X11_plan_b69]
  refine Sm.b (Sm.gi ghh gi0) ?_
  rintro x13 _ rfl
  refine Sm.i ?_ ?_
  · exact Sm.s (Ru.r (Rp.i rfl rfl))
  · refine Sm.b (Sm.gr ghh gi0) ?_
    rintro k14 k14' gk14
    refine Sm.b (Sm.gr ghh gi0) ?_
    rintro k15 k15' gk15
    refine Sm.b (Sm.ai ghh gk15) ?_
    rintro x16 _ rfl
    refine Sm.b (Sm.ai ghh gk14) ?_
    rintro x17 _ rfl
    refine Sm.l ?_
    refine Sm.l ?_
    refine Sm.b (Sm.gr ghh gi0) ?_
    rintro k20 k20' gk20
    refine Sm.b (Sm.gr ghh gi0) ?_
    rintro k21 k21' gk21
    refine Sm.b (Sm.ai ghh gk21) ?_
    rintro x22 _ rfl
    refine Sm.b (Sm.ai ghh gk20) ?_
    rintro x23 _ rfl
    refine Sm.b (R := Eq) ?_ ?_
    · refine Sm.i ?_ ?_
      · refine Sm.b (Sm.gr ghh gi0) ?_
        rintro k24 k24' gk24
        refine Sm.b (Sm.gr ghh gi0) ?_
        rintro k25 k25' gk25
        refine Sm.b (Sm.ai ghh gk25) ?_
        rintro x26 _ rfl
        refine Sm.b (Sm.ai ghh gk24) ?_
        rintro x27 _ rfl
        refine Sm.i ?_ ?_
        · exact Sm.s rfl
        · exact Sm.s rfl
      · exact Sm.s rfl
    · rintro p28 _ rfl
      refine Sm.l ?_
      refine Sm.l ?_
      exact Sm.s (Ru.l (Rp.i rfl (Rp.i rfl rfl)))
set_option maxHeartbeats 2000000 in
theorem y_X11_plan {t t' : Nat} {a1 : Int32} {h h' : tq_H} (gt : (Rr r d) t t') (gh : (Em r d W0 H0 al) h h') : Sm (Rp Eq (Em r d W0 H0 al)) (f_X11_plan t a1 h) (f_X11_plan t' a1 h') := by
  unfold f_X11_plan
  refine Sm.b (Sm.is gh gt) ?_
  intro _ _ _
  refine Sm.b (y_X11_isPath gt gh) ?_
  rintro v1 _ rfl
  refine Sm.l ?_
  refine Sm.b (Sm.is gh gt) ?_
  intro _ _ _
  refine Sm.b (y_X11_refused gt gh) ?_
  rintro ⟨v4a, v4b⟩ ⟨_, v4b'⟩ ⟨rfl, gv4b⟩
  refine Sm.i ?_ ?_
  · refine Sm.b (Sm.gr gv4b gt) ?_
    rintro k6 k6' gk6
    refine Sm.b (Sm.ai gv4b gk6) ?_
    rintro x7 _ rfl
    refine Sm.b (R := Eq) ?_ ?_
    · refine Sm.i ?_ ?_
      · exact Sm.s rfl
      · refine Sm.b (Sm.gr gv4b gt) ?_
        rintro k8 k8' gk8
        refine Sm.b (Sm.ai gv4b gk8) ?_
        rintro x9 _ rfl
        refine Sm.i ?_ ?_
        · refine Sm.b (Sm.gr gv4b gt) ?_
          rintro k10 k10' gk10
          refine Sm.b (Sm.ai gv4b gk10) ?_
          rintro x11 _ rfl
          exact Sm.s rfl
        · exact Sm.s rfl
    · rintro p12 _ rfl
      refine Sm.b (Sm.w (y_X11_plan_b69 gt gv4b) tq_N (Rp.i rfl (Rp.i rfl rfl))) ?_
      rintro ⟨o31a, o31b⟩ ⟨_, _⟩ ⟨rfl, rfl⟩
      refine Sm.i ?_ ?_
      · refine Sm.b (Sm.is gv4b gt) ?_
        intro _ _ _
        refine Sm.b (y_X11_isStreamed gt gv4b) ?_
        rintro v32 _ rfl
        refine Sm.l ?_
        exact Sm.s (Rp.i rfl gv4b)
      · refine Sm.b (Sm.gr gv4b gt) ?_
        rintro k35 k35' gk35
        refine Sm.b (Sm.az gv4b gk35) ?_
        rintro x36 _ rfl
        refine Sm.i ?_ ?_
        · refine Sm.b (Sm.is gv4b gt) ?_
          intro _ _ _
          refine Sm.b (y_X11_isStreamed gt gv4b) ?_
          rintro v37 _ rfl
          refine Sm.l ?_
          exact Sm.s (Rp.i rfl gv4b)
        · refine Sm.i ?_ ?_
          · refine Sm.b (Sm.is gv4b gt) ?_
            intro _ _ _
            refine Sm.b (y_X11_isStreamed gt gv4b) ?_
            rintro v40 _ rfl
            refine Sm.l ?_
            exact Sm.s (Rp.i rfl gv4b)
          · exact Sm.s (Rp.i rfl gv4b)
  · exact Sm.s (Rp.i rfl gv4b)
set_option maxHeartbeats 2000000 in
theorem y_X11_view {t t' : Nat} {a1 : Int32} {h h' : tq_H} (gt : (Rr r d) t t') (gh : (Em r d W0 H0 al) h h') : Sm (Rp Eq (Em r d W0 H0 al)) (f_X11_view t a1 h) (f_X11_view t' a1 h') := by
  unfold f_X11_view
  refine Sm.b (Sm.is gh gt) ?_
  intro _ _ _
  refine Sm.b (y_X11_isPath gt gh) ?_
  rintro v1 _ rfl
  refine Sm.b (R := Eq) ?_ ?_
  · refine Sm.i ?_ ?_
    · exact Sm.s rfl
    · refine Sm.b (Sm.gi gh gt) ?_
      rintro x3 _ rfl
      refine Sm.i ?_ ?_
      · exact Sm.s rfl
      · exact Sm.s rfl
  · rintro p4 _ rfl
    refine Sm.b (Sm.is gh gt) ?_
    intro _ _ _
    refine Sm.b (y_X11_refused gt gh) ?_
    rintro ⟨v5a, v5b⟩ ⟨_, v5b'⟩ ⟨rfl, gv5b⟩
    refine Sm.i ?_ ?_
    · refine Sm.b (Sm.gr gv5b gt) ?_
      rintro k7 k7' gk7
      refine Sm.b (Sm.gi gv5b gt) ?_
      rintro x8 _ rfl
      refine Sm.b (Sm.si gv5b gk7) ?_
      rintro w9 w9' gw9
      refine Sm.b (Sm.gr gw9 gt) ?_
      rintro k10 k10' gk10
      refine Sm.b (Sm.gi gw9 gt) ?_
      rintro x11 _ rfl
      refine Sm.b (Sm.si gw9 gk10) ?_
      rintro w12 w12' gw12
      refine Sm.b (Sm.is gw12 gt) ?_
      intro _ _ _
      refine Sm.b (y_X11_all gt gw12) ?_
      rintro v13 _ rfl
      refine Sm.b (Sm.is gw12 gt) ?_
      intro _ _ _
      refine Sm.b (y_X11_findAll gt gw12) ?_
      rintro v15 v15' gv15
      refine Sm.b (Sm.gr gv15 gt) ?_
      rintro k17 k17' gk17
      refine Sm.b (Sm.gi gv15 gt) ?_
      rintro x18 _ rfl
      refine Sm.b (Sm.gr gv15 gt) ?_
      rintro k19 k19' gk19
      refine Sm.b (Sm.aj gv15 gk19) ?_
      rintro x20 _ rfl
      refine Sm.b (Sm.sl gv15 gk17) ?_
      rintro w21 w21' gw21
      refine Sm.b (Sm.gi gw21 gt) ?_
      rintro x22 _ rfl
      refine Sm.b (Sm.pf gw21 gt (okV_i _)) ?_
      rintro w23 w23' gw23
      refine Sm.b (Sm.gi gw23 gt) ?_
      rintro x24 _ rfl
      exact Sm.s (Rp.i rfl gw23)
    · exact Sm.s (Rp.i rfl gv5b)
set_option maxHeartbeats 2000000 in
theorem y_X11_viewed {t t' : Nat} {a1 : Int32} {a2 : Int32} {h h' : tq_H} (gt : (Rr r d) t t') (gh : (Em r d W0 H0 al) h h') : Sm (Rp Eq (Em r d W0 H0 al)) (f_X11_viewed t a1 a2 h) (f_X11_viewed t' a1 a2 h') := by
  unfold f_X11_viewed
  refine Sm.b (Sm.gi gh gt) ?_
  rintro x1 _ rfl
  refine Sm.b (y_X11_in gh) ?_
  rintro v2 _ rfl
  refine Sm.l ?_
  refine Sm.l ?_
  refine Sm.b (Sm.is gh gt) ?_
  intro _ _ _
  refine Sm.b (y_X11_refused gt gh) ?_
  rintro ⟨v5a, v5b⟩ ⟨_, v5b'⟩ ⟨rfl, gv5b⟩
  refine Sm.b (R := Eq) ?_ ?_
  · refine Sm.i ?_ ?_
    · refine Sm.b (Sm.gr gv5b gt) ?_
      rintro k7 k7' gk7
      refine Sm.b (Sm.aj gv5b gk7) ?_
      rintro x8 _ rfl
      refine Sm.b (Sm.is gv5b gt) ?_
      intro _ _ _
      refine Sm.b (y_X11_pick gt gv5b) ?_
      rintro v9 _ rfl
      exact Sm.s rfl
    · exact Sm.s rfl
  · rintro p11 _ rfl
    exact Sm.s (Rp.i rfl gv5b)
set_option maxHeartbeats 2000000 in
theorem y_X11_changed {t t' : Nat} {a1 : Int32} {h h' : tq_H} (gt : (Rr r d) t t') (gh : (Em r d W0 H0 al) h h') : Sm (Rp Eq (Em r d W0 H0 al)) (f_X11_changed t a1 h) (f_X11_changed t' a1 h') := by
  unfold f_X11_changed
  refine Sm.b (Sm.gi gh gt) ?_
  rintro x1 _ rfl
  refine Sm.b (y_X11_in gh) ?_
  rintro v2 _ rfl
  refine Sm.l ?_
  refine Sm.b (Sm.is gh gt) ?_
  intro _ _ _
  refine Sm.b (y_X11_refused gt gh) ?_
  rintro ⟨v4a, v4b⟩ ⟨_, v4b'⟩ ⟨rfl, gv4b⟩
  refine Sm.b (R := Eq) ?_ ?_
  · refine Sm.i ?_ ?_
    · refine Sm.b (Sm.gr gv4b gt) ?_
      rintro k6 k6' gk6
      refine Sm.b (Sm.ai gv4b gk6) ?_
      rintro x7 _ rfl
      exact Sm.s rfl
    · exact Sm.s rfl
  · rintro p8 _ rfl
    exact Sm.s (Rp.i rfl gv4b)
set_option maxHeartbeats 2000000 in
theorem y_X11_textsBelow_b5 {i0 i0' : Nat} {i1 : Int32} {i2 : Int32} {hh hh' : tq_H} (gi0 : (Rr r d) i0 i0') (ghh : (Em r d W0 H0 al) hh hh') : ∀ s s', (Rp Eq Eq) s s' → Sm (Ru (Rp Eq Eq) Eq) (f_X11_textsBelow_b5 i0 i1 i2 hh s) (f_X11_textsBelow_b5 i0' i1 i2 hh' s') := by
  rintro ⟨y3, y4⟩ ⟨_, _⟩ ⟨rfl, rfl⟩
  dsimp only [f_X11_textsBelow_b5]
  refine Sm.b (Sm.gi ghh gi0) ?_
  rintro x1 _ rfl
  refine Sm.i ?_ ?_
  · exact Sm.s (Ru.r rfl)
  · refine Sm.b (Sm.gr ghh gi0) ?_
    rintro k2 k2' gk2
    refine Sm.b (Sm.ai ghh gk2) ?_
    rintro x3 _ rfl
    refine Sm.b (Sm.gr ghh gi0) ?_
    rintro k4 k4' gk4
    refine Sm.b (Sm.ai ghh gk4) ?_
    rintro x5 _ rfl
    refine Sm.b (R := Eq) ?_ ?_
    · refine Sm.i ?_ ?_
      · refine Sm.b (Sm.is ghh gi0) ?_
        intro _ _ _
        refine Sm.b (y_X11_isBelow gi0 ghh) ?_
        rintro v6 _ rfl
        refine Sm.i ?_ ?_
        · exact Sm.s rfl
        · refine Sm.i ?_ ?_
          · exact Sm.s rfl
          · refine Sm.b (Sm.gr ghh gi0) ?_
            rintro k8 k8' gk8
            refine Sm.b (Sm.ai ghh gk8) ?_
            rintro x9 _ rfl
            refine Sm.i ?_ ?_
            · exact Sm.s rfl
            · exact Sm.s rfl
      · exact Sm.s rfl
    · rintro p10 _ rfl
      refine Sm.l ?_
      refine Sm.l ?_
      exact Sm.s (Ru.l (Rp.i rfl rfl))
set_option maxHeartbeats 2000000 in
theorem y_X11_textsBelow {t t' : Nat} {a1 : Int32} {a2 : Int32} {h h' : tq_H} (gt : (Rr r d) t t') (gh : (Em r d W0 H0 al) h h') : Sm Eq (f_X11_textsBelow t a1 a2 h) (f_X11_textsBelow t' a1 a2 h') := by
  unfold f_X11_textsBelow
  refine Sm.b (Sm.w (y_X11_textsBelow_b5 gt gh) tq_N (Rp.i rfl rfl)) ?_
  rintro o13 _ rfl
  exact Sm.s rfl
set_option maxHeartbeats 2000000 in
theorem y_X11_ranked_b100 {i0 i0' : Nat} {i1 : Int32} {i2 : Int32} {i3 : Int32} {i4 : Int32} {i5 : Int32} {i6 : Int32} {hh hh' : tq_H} (gi0 : (Rr r d) i0 i0') (ghh : (Em r d W0 H0 al) hh hh') : ∀ s s', (Rp Eq Eq) s s' → Sm (Ru (Rp Eq Eq) Eq) (f_X11_ranked_b100 i0 i1 i2 i3 i4 i5 i6 hh s) (f_X11_ranked_b100 i0' i1 i2 i3 i4 i5 i6 hh' s') := by
  rintro ⟨y7, y8⟩ ⟨_, _⟩ ⟨rfl, rfl⟩
  dsimp only [f_X11_ranked_b100]
  refine Sm.b (Sm.gi ghh gi0) ?_
  rintro x19 _ rfl
  refine Sm.i ?_ ?_
  · exact Sm.s (Ru.r rfl)
  · refine Sm.i ?_ ?_
    · exact Sm.s (Ru.r rfl)
    · refine Sm.b (Sm.gr ghh gi0) ?_
      rintro k20 k20' gk20
      refine Sm.b (Sm.gr ghh gi0) ?_
      rintro k21 k21' gk21
      refine Sm.b (Sm.ai ghh gk21) ?_
      rintro x22 _ rfl
      refine Sm.b (Sm.ai ghh gk20) ?_
      rintro x23 _ rfl
      refine Sm.b (R := Eq) ?_ ?_
      · refine Sm.i ?_ ?_
        · refine Sm.b (Sm.gr ghh gi0) ?_
          rintro k24 k24' gk24
          refine Sm.b (Sm.ai ghh gk24) ?_
          rintro x25 _ rfl
          refine Sm.b (Sm.is ghh gi0) ?_
          intro _ _ _
          refine Sm.b (y_X11_textsBelow gi0 ghh) ?_
          rintro v26 _ rfl
          exact Sm.s rfl
        · exact Sm.s rfl
      · rintro p28 _ rfl
        refine Sm.b (Sm.gr ghh gi0) ?_
        rintro k29 k29' gk29
        refine Sm.b (Sm.ai ghh gk29) ?_
        rintro x30 _ rfl
        refine Sm.b (Sm.is ghh gi0) ?_
        intro _ _ _
        refine Sm.b (y_X11_textsBelow gi0 ghh) ?_
        rintro v31 _ rfl
        refine Sm.l ?_
        refine Sm.l ?_
        refine Sm.l ?_
        exact Sm.s (Ru.l (Rp.i rfl rfl))
set_option maxHeartbeats 2000000 in
theorem y_X11_ranked_b38 {i0 i0' : Nat} {i1 : Int32} {i2 : Int32} {hh hh' : tq_H} (gi0 : (Rr r d) i0 i0') (ghh : (Em r d W0 H0 al) hh hh') : ∀ s s', (Rp Eq Eq) s s' → Sm (Ru (Rp Eq Eq) Eq) (f_X11_ranked_b38 i0 i1 i2 hh s) (f_X11_ranked_b38 i0' i1 i2 hh' s') := by
  rintro ⟨y3, y4⟩ ⟨_, _⟩ ⟨rfl, rfl⟩
  dsimp only [f_X11_ranked_b38]
  refine Sm.b (Sm.gi ghh gi0) ?_
  rintro x5 _ rfl
  refine Sm.i ?_ ?_
  · exact Sm.s (Ru.r rfl)
  · refine Sm.b (Sm.gr ghh gi0) ?_
    rintro k6 k6' gk6
    refine Sm.b (Sm.gr ghh gi0) ?_
    rintro k7 k7' gk7
    refine Sm.b (Sm.ai ghh gk7) ?_
    rintro x8 _ rfl
    refine Sm.b (Sm.ai ghh gk6) ?_
    rintro x9 _ rfl
    refine Sm.b (R := Eq) ?_ ?_
    · refine Sm.i ?_ ?_
      · refine Sm.b (Sm.gr ghh gi0) ?_
        rintro k10 k10' gk10
        refine Sm.b (Sm.ai ghh gk10) ?_
        rintro x11 _ rfl
        refine Sm.b (Sm.is ghh gi0) ?_
        intro _ _ _
        refine Sm.b (y_X11_textsBelow gi0 ghh) ?_
        rintro v12 _ rfl
        exact Sm.s rfl
      · exact Sm.s rfl
    · rintro p14 _ rfl
      refine Sm.b (Sm.gr ghh gi0) ?_
      rintro k15 k15' gk15
      refine Sm.b (Sm.ai ghh gk15) ?_
      rintro x16 _ rfl
      refine Sm.b (Sm.is ghh gi0) ?_
      intro _ _ _
      refine Sm.b (y_X11_textsBelow gi0 ghh) ?_
      rintro v17 _ rfl
      refine Sm.b (Sm.w (y_X11_ranked_b100 gi0 ghh) tq_N (Rp.i rfl rfl)) ?_
      rintro o36 _ rfl
      refine Sm.b (R := Eq) ?_ ?_
      · refine Sm.i ?_ ?_
        · exact Sm.s rfl
        · refine Sm.i ?_ ?_
          · refine Sm.b (Sm.gr ghh gi0) ?_
            rintro k37 k37' gk37
            refine Sm.b (Sm.ai ghh gk37) ?_
            rintro x38 _ rfl
            exact Sm.s rfl
          · exact Sm.s rfl
      · rintro p39 _ rfl
        refine Sm.l ?_
        exact Sm.s (Ru.l (Rp.i rfl rfl))
set_option maxHeartbeats 2000000 in
theorem y_X11_ranked {t t' : Nat} {a1 : Int32} {a2 : Int32} {h h' : tq_H} (gt : (Rr r d) t t') (gh : (Em r d W0 H0 al) h h') : Sm (Rp Eq (Em r d W0 H0 al)) (f_X11_ranked t a1 a2 h) (f_X11_ranked t' a1 a2 h') := by
  unfold f_X11_ranked
  refine Sm.b (R := Eq) ?_ ?_
  · refine Sm.i ?_ ?_
    · refine Sm.b (y_X11_in gh) ?_
      rintro v1 _ rfl
      refine Sm.i ?_ ?_
      · exact Sm.s rfl
      · exact Sm.s rfl
    · exact Sm.s rfl
  · rintro p2 _ rfl
    refine Sm.b (Sm.is gh gt) ?_
    intro _ _ _
    refine Sm.b (y_X11_refused gt gh) ?_
    rintro ⟨v3a, v3b⟩ ⟨_, v3b'⟩ ⟨rfl, gv3b⟩
    refine Sm.i ?_ ?_
    · refine Sm.b (Sm.w (y_X11_ranked_b38 gt gv3b) tq_N (Rp.i rfl rfl)) ?_
      rintro o41 _ rfl
      exact Sm.s (Rp.i rfl gv3b)
    · exact Sm.s (Rp.i rfl gv3b)
set_option maxHeartbeats 2000000 in
theorem y_X11_keep_b25 {i0 i0' : Nat} (gi0 : (Rr r d) i0 i0') : ∀ s s', (Rp Eq (Em r d W0 H0 al)) s s' → Sm (Ru (Rp Eq (Em r d W0 H0 al)) (Em r d W0 H0 al)) (f_X11_keep_b25 i0 s) (f_X11_keep_b25 i0' s') := by
  rintro ⟨y1, hh⟩ ⟨_, hh'⟩ ⟨rfl, ghh⟩
  dsimp only [f_X11_keep_b25]
  refine Sm.i ?_ ?_
  · exact Sm.s (Ru.r ghh)
  · refine Sm.b (Sm.gi ghh gi0) ?_
    rintro x5 _ rfl
    refine Sm.l ?_
    refine Sm.b (Sm.gr ghh gi0) ?_
    rintro k7 k7' gk7
    refine Sm.b (Sm.gr ghh gi0) ?_
    rintro k8 k8' gk8
    refine Sm.b (Sm.az ghh gk8) ?_
    rintro x9 _ rfl
    refine Sm.b (Sm.sz ghh gk7) ?_
    rintro w10 w10' gw10
    refine Sm.b (Sm.gr gw10 gi0) ?_
    rintro k11 k11' gk11
    refine Sm.b (Sm.gr gw10 gi0) ?_
    rintro k12 k12' gk12
    refine Sm.b (Sm.ai gw10 gk12) ?_
    rintro x13 _ rfl
    refine Sm.b (Sm.si gw10 gk11) ?_
    rintro w14 w14' gw14
    refine Sm.b (Sm.gr gw14 gi0) ?_
    rintro k15 k15' gk15
    refine Sm.b (Sm.gr gw14 gi0) ?_
    rintro k16 k16' gk16
    refine Sm.b (Sm.ai gw14 gk16) ?_
    rintro x17 _ rfl
    refine Sm.b (Sm.si gw14 gk15) ?_
    rintro w18 w18' gw18
    refine Sm.b (Sm.gr gw18 gi0) ?_
    rintro k19 k19' gk19
    refine Sm.b (Sm.gr gw18 gi0) ?_
    rintro k20 k20' gk20
    refine Sm.b (Sm.ai gw18 gk20) ?_
    rintro x21 _ rfl
    refine Sm.b (Sm.si gw18 gk19) ?_
    rintro w22 w22' gw22
    refine Sm.b (Sm.gr gw22 gi0) ?_
    rintro k23 k23' gk23
    refine Sm.b (Sm.gr gw22 gi0) ?_
    rintro k24 k24' gk24
    refine Sm.b (Sm.ai gw22 gk24) ?_
    rintro x25 _ rfl
    refine Sm.b (Sm.si gw22 gk23) ?_
    rintro w26 w26' gw26
    refine Sm.b (Sm.gr gw26 gi0) ?_
    rintro k27 k27' gk27
    refine Sm.b (Sm.gr gw26 gi0) ?_
    rintro k28 k28' gk28
    refine Sm.b (Sm.ai gw26 gk28) ?_
    rintro x29 _ rfl
    refine Sm.b (Sm.si gw26 gk27) ?_
    rintro w30 w30' gw30
    refine Sm.l ?_
    exact Sm.s (Ru.l (Rp.i rfl gw30))
set_option maxHeartbeats 2000000 in
theorem y_X11_keep {t t' : Nat} {h h' : tq_H} (gt : (Rr r d) t t') (gh : (Em r d W0 H0 al) h h') : Sm (Rp Eq (Em r d W0 H0 al)) (f_X11_keep t h) (f_X11_keep t' h') := by
  unfold f_X11_keep
  refine Sm.b (Sm.gi gh gt) ?_
  rintro x1 _ rfl
  refine Sm.l ?_
  refine Sm.b (Sm.is gh gt) ?_
  intro _ _ _
  refine Sm.b (y_X11_refused gt gh) ?_
  rintro ⟨v3a, v3b⟩ ⟨_, v3b'⟩ ⟨rfl, gv3b⟩
  refine Sm.i ?_ ?_
  · refine Sm.b (Sm.w (y_X11_keep_b25 gt) tq_N (Rp.i rfl gv3b)) ?_
    rintro o32 o32' go32
    refine Sm.b (Sm.gi go32 gt) ?_
    rintro x33 _ rfl
    refine Sm.b (Sm.pf go32 gt (okV_i _)) ?_
    rintro w34 w34' gw34
    refine Sm.b (Sm.gi gw34 gt) ?_
    rintro x35 _ rfl
    exact Sm.s (Rp.i rfl gw34)
  · exact Sm.s (Rp.i rfl gv3b)
set_option maxHeartbeats 2000000 in
theorem y_X11_load_b2 {i0 i0' : Nat} {i1 : Int32} (gi0 : (Rr r d) i0 i0') : ∀ s s', (Rp Eq (Em r d W0 H0 al)) s s' → Sm (Ru (Rp Eq (Em r d W0 H0 al)) (Em r d W0 H0 al)) (f_X11_load_b2 i0 i1 s) (f_X11_load_b2 i0' i1 s') := by
  rintro ⟨y2, hh⟩ ⟨_, hh'⟩ ⟨rfl, ghh⟩
  dsimp only [f_X11_load_b2]
  refine Sm.i ?_ ?_
  · exact Sm.s (Ru.r ghh)
  · refine Sm.l ?_
    refine Sm.b (Sm.gr ghh gi0) ?_
    rintro k2 k2' gk2
    refine Sm.b (Sm.gr ghh gi0) ?_
    rintro k3 k3' gk3
    refine Sm.b (Sm.az ghh gk3) ?_
    rintro x4 _ rfl
    refine Sm.b (Sm.sz ghh gk2) ?_
    rintro w5 w5' gw5
    refine Sm.b (Sm.gr gw5 gi0) ?_
    rintro k6 k6' gk6
    refine Sm.b (Sm.gr gw5 gi0) ?_
    rintro k7 k7' gk7
    refine Sm.b (Sm.ai gw5 gk7) ?_
    rintro x8 _ rfl
    refine Sm.b (Sm.si gw5 gk6) ?_
    rintro w9 w9' gw9
    refine Sm.b (Sm.gr gw9 gi0) ?_
    rintro k10 k10' gk10
    refine Sm.b (Sm.gr gw9 gi0) ?_
    rintro k11 k11' gk11
    refine Sm.b (Sm.ai gw9 gk11) ?_
    rintro x12 _ rfl
    refine Sm.b (Sm.si gw9 gk10) ?_
    rintro w13 w13' gw13
    refine Sm.b (Sm.gr gw13 gi0) ?_
    rintro k14 k14' gk14
    refine Sm.b (Sm.gr gw13 gi0) ?_
    rintro k15 k15' gk15
    refine Sm.b (Sm.ai gw13 gk15) ?_
    rintro x16 _ rfl
    refine Sm.b (Sm.si gw13 gk14) ?_
    rintro w17 w17' gw17
    refine Sm.b (Sm.gr gw17 gi0) ?_
    rintro k18 k18' gk18
    refine Sm.b (Sm.gr gw17 gi0) ?_
    rintro k19 k19' gk19
    refine Sm.b (Sm.ai gw17 gk19) ?_
    rintro x20 _ rfl
    refine Sm.b (Sm.si gw17 gk18) ?_
    rintro w21 w21' gw21
    refine Sm.b (Sm.gr gw21 gi0) ?_
    rintro k22 k22' gk22
    refine Sm.b (Sm.gr gw21 gi0) ?_
    rintro k23 k23' gk23
    refine Sm.b (Sm.ai gw21 gk23) ?_
    rintro x24 _ rfl
    refine Sm.b (Sm.si gw21 gk22) ?_
    rintro w25 w25' gw25
    refine Sm.l ?_
    exact Sm.s (Ru.l (Rp.i rfl gw25))
set_option maxHeartbeats 2000000 in
theorem y_X11_load {t t' : Nat} {a1 : Int32} {h h' : tq_H} (gt : (Rr r d) t t') (gh : (Em r d W0 H0 al) h h') : Sm (Em r d W0 H0 al) (f_X11_load t a1 h) (f_X11_load t' a1 h') := by
  unfold f_X11_load
  refine Sm.b (Sm.w (y_X11_load_b2 gt) tq_N (Rp.i rfl gh)) ?_
  rintro o27 o27' go27
  refine Sm.b (Sm.is go27 gt) ?_
  intro _ _ _
  refine Sm.b (y_X11_arrange gt go27) ?_
  rintro v28 v28' gv28
  exact Sm.s gv28
set_option maxHeartbeats 2000000 in
theorem y_X11_isVersion {t t' : Nat} {a1 : Int32} {h h' : tq_H} (gt : (Rr r d) t t') (gh : (Em r d W0 H0 al) h h') : Sm Eq (f_X11_isVersion t a1 h) (f_X11_isVersion t' a1 h') := by
  unfold f_X11_isVersion
  refine Sm.b (Sm.gi gh gt) ?_
  rintro x1 _ rfl
  refine Sm.b (y_X11_in gh) ?_
  rintro v2 _ rfl
  refine Sm.b (Sm.r) ?_
  rintro z3 _ rfl
  exact Sm.s rfl
set_option maxHeartbeats 2000000 in
theorem y_X11_take {t t' : Nat} {a1 : Int32} {h h' : tq_H} (gt : (Rr r d) t t') (gh : (Em r d W0 H0 al) h h') : Sm (Rp Eq (Em r d W0 H0 al)) (f_X11_take t a1 h) (f_X11_take t' a1 h') := by
  unfold f_X11_take
  refine Sm.b (Sm.is gh gt) ?_
  intro _ _ _
  refine Sm.b (y_X11_isVersion gt gh) ?_
  rintro v1 _ rfl
  refine Sm.b (R := Eq) ?_ ?_
  · refine Sm.i ?_ ?_
    · exact Sm.s rfl
    · refine Sm.b (Sm.gi gh gt) ?_
      rintro x3 _ rfl
      refine Sm.i ?_ ?_
      · exact Sm.s rfl
      · exact Sm.s rfl
  · rintro p4 _ rfl
    refine Sm.b (Sm.is gh gt) ?_
    intro _ _ _
    refine Sm.b (y_X11_refused gt gh) ?_
    rintro ⟨v5a, v5b⟩ ⟨_, v5b'⟩ ⟨rfl, gv5b⟩
    refine Sm.i ?_ ?_
    · refine Sm.b (Sm.is gv5b gt) ?_
      intro _ _ _
      refine Sm.b (y_X11_remember gt gv5b) ?_
      rintro v7 v7' gv7
      refine Sm.b (Sm.is gv7 gt) ?_
      intro _ _ _
      refine Sm.b (y_X11_load gt gv7) ?_
      rintro v9 v9' gv9
      refine Sm.b (Sm.gi gv9 gt) ?_
      rintro x11 _ rfl
      refine Sm.i ?_ ?_
      · refine Sm.b (Sm.is gv9 gt) ?_
        intro _ _ _
        refine Sm.b (y_X11_numberAll gt gv9) ?_
        rintro v12 v12' gv12
        refine Sm.b (Sm.is gv12 gt) ?_
        intro _ _ _
        refine Sm.b (y_X11_lookAtViews gt gv12) ?_
        rintro v14 v14' gv14
        refine Sm.b (Sm.gi gv14 gt) ?_
        rintro x16 _ rfl
        exact Sm.s (Rp.i rfl gv14)
      · refine Sm.b (Sm.is gv9 gt) ?_
        intro _ _ _
        refine Sm.b (y_X11_isRight gt gv9) ?_
        rintro ⟨v17a, v17b⟩ ⟨_, v17b'⟩ ⟨rfl, gv17b⟩
        refine Sm.i ?_ ?_
        · refine Sm.b (Sm.is gv17b gt) ?_
          intro _ _ _
          refine Sm.b (y_X11_comeBack gt gv17b) ?_
          rintro v24 v24' gv24
          refine Sm.b (Sm.is gv24 gt) ?_
          intro _ _ _
          refine Sm.b (y_X11_arrange gt gv24) ?_
          rintro v26 v26' gv26
          refine Sm.b (Sm.is gv26 gt) ?_
          intro _ _ _
          refine Sm.b (y_X11_refused gt gv26) ?_
          rintro ⟨v28a, v28b⟩ ⟨_, v28b'⟩ ⟨rfl, gv28b⟩
          exact Sm.s (Rp.i rfl gv28b)
        · refine Sm.b (Sm.is gv17b gt) ?_
          intro _ _ _
          refine Sm.b (y_X11_numberAll gt gv17b) ?_
          rintro v19 v19' gv19
          refine Sm.b (Sm.is gv19 gt) ?_
          intro _ _ _
          refine Sm.b (y_X11_lookAtViews gt gv19) ?_
          rintro v21 v21' gv21
          refine Sm.b (Sm.gi gv21 gt) ?_
          rintro x23 _ rfl
          exact Sm.s (Rp.i rfl gv21)
    · exact Sm.s (Rp.i rfl gv5b)
set_option maxHeartbeats 2000000 in
theorem y_X11_layOut_b33 {i0 i0' : Nat} {i1 : Int32} {i3 : Int32} {hh hh' : tq_H} (gi0 : (Rr r d) i0 i0') (ghh : (Em r d W0 H0 al) hh hh') : ∀ s s', (Rp Eq Eq) s s' → Sm (Ru (Rp Eq Eq) Eq) (f_X11_layOut_b33 i0 i1 i3 hh s) (f_X11_layOut_b33 i0' i1 i3 hh' s') := by
  rintro ⟨y4, y5⟩ ⟨_, _⟩ ⟨rfl, rfl⟩
  dsimp only [f_X11_layOut_b33]
  refine Sm.b (Sm.gi ghh gi0) ?_
  rintro x8 _ rfl
  refine Sm.i ?_ ?_
  · exact Sm.s (Ru.r rfl)
  · refine Sm.b (Sm.gr ghh gi0) ?_
    rintro k9 k9' gk9
    refine Sm.b (Sm.ai ghh gk9) ?_
    rintro x10 _ rfl
    refine Sm.b (Sm.gr ghh gi0) ?_
    rintro k11 k11' gk11
    refine Sm.b (Sm.ai ghh gk11) ?_
    rintro x12 _ rfl
    refine Sm.b (Sm.is ghh gi0) ?_
    intro _ _ _
    refine Sm.b (y_X11_isBelow gi0 ghh) ?_
    rintro v13 _ rfl
    refine Sm.i ?_ ?_
    · exact Sm.s (Ru.r rfl)
    · refine Sm.l ?_
      refine Sm.l ?_
      exact Sm.s (Ru.l (Rp.i rfl rfl))
set_option maxHeartbeats 2000000 in
theorem y_X11_layOut_b87 {i0 i0' : Nat} {i1 : Int32} {i3 : Int32} {i4 : Int32} {hh hh' : tq_H} (gi0 : (Rr r d) i0 i0') (ghh : (Em r d W0 H0 al) hh hh') : ∀ s s', (Rp Eq Eq) s s' → Sm (Ru (Rp Eq Eq) Eq) (f_X11_layOut_b87 i0 i1 i3 i4 hh s) (f_X11_layOut_b87 i0' i1 i3 i4 hh' s') := by
  rintro ⟨y5, y6⟩ ⟨_, _⟩ ⟨rfl, rfl⟩
  dsimp only [f_X11_layOut_b87]
  refine Sm.i ?_ ?_
  · exact Sm.s (Ru.r rfl)
  · refine Sm.l ?_
    refine Sm.b (Sm.gr ghh gi0) ?_
    rintro k23 k23' gk23
    refine Sm.b (Sm.ai ghh gk23) ?_
    rintro x24 _ rfl
    exact Sm.s (Ru.l (Rp.i rfl rfl))
set_option maxHeartbeats 2000000 in
theorem y_X11_layOut_b17 {i0 i0' : Nat} {i1 : Int32} (gi0 : (Rr r d) i0 i0') : ∀ s s', (Rp Eq (Em r d W0 H0 al)) s s' → Sm (Ru (Rp Eq (Em r d W0 H0 al)) (Em r d W0 H0 al)) (f_X11_layOut_b17 i0 i1 s) (f_X11_layOut_b17 i0' i1 s') := by
  rintro ⟨y3, hh⟩ ⟨_, hh'⟩ ⟨rfl, ghh⟩
  dsimp only [f_X11_layOut_b17]
  refine Sm.b (Sm.gi ghh gi0) ?_
  rintro x6 _ rfl
  refine Sm.i ?_ ?_
  · exact Sm.s (Ru.r ghh)
  · refine Sm.l ?_
    refine Sm.b (Sm.w (y_X11_layOut_b33 gi0 ghh) tq_N (Rp.i rfl rfl)) ?_
    rintro o17 _ rfl
    refine Sm.b (Sm.gr ghh gi0) ?_
    rintro k18 k18' gk18
    refine Sm.b (Sm.gr ghh gi0) ?_
    rintro k19 k19' gk19
    refine Sm.b (Sm.ai ghh gk19) ?_
    rintro x20 _ rfl
    refine Sm.b (Sm.ai ghh gk18) ?_
    rintro x21 _ rfl
    refine Sm.b (Sm.w (y_X11_layOut_b87 gi0 ghh) tq_N (Rp.i rfl rfl)) ?_
    rintro o25 _ rfl
    refine Sm.l ?_
    refine Sm.b (Sm.gr ghh gi0) ?_
    rintro k27 k27' gk27
    refine Sm.b (Sm.gr ghh gi0) ?_
    rintro k28 k28' gk28
    refine Sm.b (Sm.ai ghh gk28) ?_
    rintro x29 _ rfl
    refine Sm.b (Sm.si ghh gk27) ?_
    rintro w30 w30' gw30
    refine Sm.b (Sm.gr gw30 gi0) ?_
    rintro k31 k31' gk31
    refine Sm.b (Sm.si gw30 gk31) ?_
    rintro w32 w32' gw32
    refine Sm.l ?_
    exact Sm.s (Ru.l (Rp.i rfl gw32))
set_option maxHeartbeats 2000000 in
theorem y_X11_layOut {t t' : Nat} {a1 : Int32} {a2 : Int32} {h h' : tq_H} (gt : (Rr r d) t t') (gh : (Em r d W0 H0 al) h h') : Sm (Em r d W0 H0 al) (f_X11_layOut t a1 a2 h) (f_X11_layOut t' a1 a2 h') := by
  unfold f_X11_layOut
  refine Sm.b (Sm.is gh gt) ?_
  intro _ _ _
  refine Sm.b (y_X11_load gt gh) ?_
  rintro v1 v1' gv1
  refine Sm.b (Sm.gr gv1 gt) ?_
  rintro k3 k3' gk3
  refine Sm.b (Sm.gi gv1 gt) ?_
  rintro x4 _ rfl
  refine Sm.b (Sm.si gv1 gk3) ?_
  rintro w5 w5' gw5
  refine Sm.b (Sm.w (y_X11_layOut_b17 gt) tq_N (Rp.i rfl gw5)) ?_
  rintro o34 o34' go34
  exact Sm.s go34
set_option maxHeartbeats 2000000 in
theorem y_X11_isAlike {t t' : Nat} {a1 : Int32} {a2 : Int32} {a3 : Int32} {a4 : Int32} {h h' : tq_H} (gt : (Rr r d) t t') (gh : (Em r d W0 H0 al) h h') : Sm Eq (f_X11_isAlike t a1 a2 a3 a4 h) (f_X11_isAlike t' a1 a2 a3 a4 h') := by
  unfold f_X11_isAlike
  refine Sm.l ?_
  refine Sm.l ?_
  refine Sm.b (Sm.gr gh gt) ?_
  rintro k3 k3' gk3
  refine Sm.b (Sm.ai gh gk3) ?_
  rintro x4 _ rfl
  refine Sm.b (Sm.gr gh gt) ?_
  rintro k5 k5' gk5
  refine Sm.b (Sm.ai gh gk5) ?_
  rintro x6 _ rfl
  refine Sm.b (R := Eq) ?_ ?_
  · refine Sm.i ?_ ?_
    · refine Sm.b (Sm.gr gh gt) ?_
      rintro k7 k7' gk7
      refine Sm.b (Sm.ai gh gk7) ?_
      rintro x8 _ rfl
      refine Sm.b (Sm.gr gh gt) ?_
      rintro k9 k9' gk9
      refine Sm.b (Sm.ai gh gk9) ?_
      rintro x10 _ rfl
      refine Sm.i ?_ ?_
      · refine Sm.b (Sm.gr gh gt) ?_
        rintro k11 k11' gk11
        refine Sm.b (Sm.ai gh gk11) ?_
        rintro x12 _ rfl
        refine Sm.b (Sm.gr gh gt) ?_
        rintro k13 k13' gk13
        refine Sm.b (Sm.ai gh gk13) ?_
        rintro x14 _ rfl
        refine Sm.i ?_ ?_
        · refine Sm.b (Sm.gr gh gt) ?_
          rintro k15 k15' gk15
          refine Sm.b (Sm.ai gh gk15) ?_
          rintro x16 _ rfl
          refine Sm.b (Sm.gr gh gt) ?_
          rintro k17 k17' gk17
          refine Sm.b (Sm.ai gh gk17) ?_
          rintro x18 _ rfl
          refine Sm.i ?_ ?_
          · exact Sm.s rfl
          · exact Sm.s rfl
        · exact Sm.s rfl
      · exact Sm.s rfl
    · exact Sm.s rfl
  · rintro p19 _ rfl
    refine Sm.b (Sm.r) ?_
    rintro z20 _ rfl
    exact Sm.s rfl
set_option maxHeartbeats 2000000 in
theorem y_X11_isKey_b7 {i0 i0' : Nat} {i1 : Int32} {i2 : Int32} {hh hh' : tq_H} (gi0 : (Rr r d) i0 i0') (ghh : (Em r d W0 H0 al) hh hh') : ∀ s s', (Rp Eq Eq) s s' → Sm (Ru (Rp Eq Eq) Eq) (f_X11_isKey_b7 i0 i1 i2 hh s) (f_X11_isKey_b7 i0' i1 i2 hh' s') := by
  rintro ⟨y3, y4⟩ ⟨_, _⟩ ⟨rfl, rfl⟩
  dsimp only [f_X11_isKey_b7]
  refine Sm.b (Sm.gr ghh gi0) ?_
  rintro k2 k2' gk2
  refine Sm.b (Sm.ai ghh gk2) ?_
  rintro x3 _ rfl
  refine Sm.i ?_ ?_
  · exact Sm.s (Ru.r rfl)
  · refine Sm.b (R := Eq) ?_ ?_
    · refine Sm.i ?_ ?_
      · exact Sm.s rfl
      · refine Sm.b (Sm.gr ghh gi0) ?_
        rintro k4 k4' gk4
        refine Sm.b (Sm.ai ghh gk4) ?_
        rintro x5 _ rfl
        refine Sm.b (Sm.gr ghh gi0) ?_
        rintro k6 k6' gk6
        refine Sm.b (Sm.ai ghh gk6) ?_
        rintro x7 _ rfl
        refine Sm.i ?_ ?_
        · exact Sm.s rfl
        · exact Sm.s rfl
    · rintro p8 _ rfl
      refine Sm.l ?_
      exact Sm.s (Ru.l (Rp.i rfl rfl))
set_option maxHeartbeats 2000000 in
theorem y_X11_isKey {t t' : Nat} {a1 : Int32} {a2 : Int32} {h h' : tq_H} (gt : (Rr r d) t t') (gh : (Em r d W0 H0 al) h h') : Sm Eq (f_X11_isKey t a1 a2 h) (f_X11_isKey t' a1 a2 h') := by
  unfold f_X11_isKey
  refine Sm.l ?_
  refine Sm.b (Sm.w (y_X11_isKey_b7 gt gh) tq_N (Rp.i rfl rfl)) ?_
  rintro o10 _ rfl
  refine Sm.b (Sm.r) ?_
  rintro z11 _ rfl
  exact Sm.s rfl
set_option maxHeartbeats 2000000 in
theorem y_X11_least {a0 : Int32} {a1 : Int32} {a2 : Int32} {h h' : tq_H} (gh : (Em r d W0 H0 al) h h') : Sm Eq (f_X11_least a0 a1 a2 h) (f_X11_least a0 a1 a2 h') := by
  unfold f_X11_least
  refine Sm.l ?_
  refine Sm.l ?_
  exact Sm.s rfl
set_option maxHeartbeats 2000000 in
theorem y_X11_compareAt_b41 {i0 i0' : Nat} {i1 : Int32} {i2 : Int32} {i3 : Int32} {i4 : Int32} {i5 : Int32} {i6 : Int32} (gi0 : (Rr r d) i0 i0') : ∀ s s', (Rp Eq (Em r d W0 H0 al)) s s' → Sm (Ru (Rp Eq (Em r d W0 H0 al)) (Em r d W0 H0 al)) (f_X11_compareAt_b41 i0 i1 i2 i3 i4 i5 i6 s) (f_X11_compareAt_b41 i0' i1 i2 i3 i4 i5 i6 s') := by
  rintro ⟨y7, hh⟩ ⟨_, hh'⟩ ⟨rfl, ghh⟩
  dsimp only [f_X11_compareAt_b41]
  refine Sm.i ?_ ?_
  · exact Sm.s (Ru.r ghh)
  · refine Sm.b (Sm.gr ghh gi0) ?_
    rintro k7 k7' gk7
    refine Sm.b (Sm.gr ghh gi0) ?_
    rintro k8 k8' gk8
    refine Sm.b (Sm.ai ghh gk8) ?_
    rintro x9 _ rfl
    refine Sm.b (Sm.si ghh gk7) ?_
    rintro w10 w10' gw10
    refine Sm.l ?_
    exact Sm.s (Ru.l (Rp.i rfl gw10))
set_option maxHeartbeats 2000000 in
theorem y_X11_compareAt_b91 {i0 i0' : Nat} {i1 : Int32} {i2 : Int32} {i3 : Int32} {i4 : Int32} {i5 : Int32} {i6 : Int32} (gi0 : (Rr r d) i0 i0') : ∀ s s', (Rp Eq (Em r d W0 H0 al)) s s' → Sm (Ru (Rp Eq (Em r d W0 H0 al)) (Em r d W0 H0 al)) (f_X11_compareAt_b91 i0 i1 i2 i3 i4 i5 i6 s) (f_X11_compareAt_b91 i0' i1 i2 i3 i4 i5 i6 s') := by
  rintro ⟨y7, hh⟩ ⟨_, hh'⟩ ⟨rfl, ghh⟩
  dsimp only [f_X11_compareAt_b91]
  refine Sm.i ?_ ?_
  · exact Sm.s (Ru.r ghh)
  · refine Sm.b (Sm.gr ghh gi0) ?_
    rintro k13 k13' gk13
    refine Sm.b (Sm.gr ghh gi0) ?_
    rintro k14 k14' gk14
    refine Sm.b (Sm.ai ghh gk14) ?_
    rintro x15 _ rfl
    refine Sm.b (Sm.si ghh gk13) ?_
    rintro w16 w16' gw16
    refine Sm.l ?_
    exact Sm.s (Ru.l (Rp.i rfl gw16))
set_option maxHeartbeats 2000000 in
theorem y_X11_compareAt_b151 {i0 i0' : Nat} {i1 : Int32} {i2 : Int32} {i3 : Int32} {i4 : Int32} {i5 : Int32} {i6 : Int32} {i7 : Int32} (gi0 : (Rr r d) i0 i0') : ∀ s s', (Rp Eq (Em r d W0 H0 al)) s s' → Sm (Ru (Rp Eq (Em r d W0 H0 al)) (Em r d W0 H0 al)) (f_X11_compareAt_b151 i0 i1 i2 i3 i4 i5 i6 i7 s) (f_X11_compareAt_b151 i0' i1 i2 i3 i4 i5 i6 i7 s') := by
  rintro ⟨y8, hh⟩ ⟨_, hh'⟩ ⟨rfl, ghh⟩
  dsimp only [f_X11_compareAt_b151]
  refine Sm.i ?_ ?_
  · exact Sm.s (Ru.r ghh)
  · refine Sm.b (Sm.gr ghh gi0) ?_
    rintro k19 k19' gk19
    refine Sm.b (Sm.ai ghh gk19) ?_
    rintro x20 _ rfl
    refine Sm.l ?_
    refine Sm.b (Sm.gr ghh gi0) ?_
    rintro k22 k22' gk22
    refine Sm.b (Sm.ai ghh gk22) ?_
    rintro x23 _ rfl
    refine Sm.l ?_
    refine Sm.b (Sm.gr ghh gi0) ?_
    rintro k25 k25' gk25
    refine Sm.b (Sm.ai ghh gk25) ?_
    rintro x26 _ rfl
    refine Sm.b (R := Eq) ?_ ?_
    · refine Sm.i ?_ ?_
      · refine Sm.b (Sm.gr ghh gi0) ?_
        rintro k27 k27' gk27
        refine Sm.b (Sm.ai ghh gk27) ?_
        rintro x28 _ rfl
        refine Sm.i ?_ ?_
        · exact Sm.s rfl
        · exact Sm.s rfl
      · exact Sm.s rfl
    · rintro p29 _ rfl
      refine Sm.b (R := Eq) ?_ ?_
      · refine Sm.i ?_ ?_
        · refine Sm.b (Sm.gr ghh gi0) ?_
          rintro k30 k30' gk30
          refine Sm.b (Sm.gr ghh gi0) ?_
          rintro k31 k31' gk31
          refine Sm.b (Sm.ai ghh gk31) ?_
          rintro x32 _ rfl
          refine Sm.b (Sm.gr ghh gi0) ?_
          rintro k33 k33' gk33
          refine Sm.b (Sm.ai ghh gk33) ?_
          rintro x34 _ rfl
          refine Sm.b (Sm.ai ghh gk30) ?_
          rintro x35 _ rfl
          refine Sm.b (Sm.gr ghh gi0) ?_
          rintro k36 k36' gk36
          refine Sm.b (Sm.ai ghh gk36) ?_
          rintro x37 _ rfl
          exact Sm.s rfl
        · refine Sm.b (Sm.gr ghh gi0) ?_
          rintro k38 k38' gk38
          refine Sm.b (Sm.ai ghh gk38) ?_
          rintro x39 _ rfl
          refine Sm.b (Sm.gr ghh gi0) ?_
          rintro k40 k40' gk40
          refine Sm.b (Sm.ai ghh gk40) ?_
          rintro x41 _ rfl
          refine Sm.b (Sm.gr ghh gi0) ?_
          rintro k42 k42' gk42
          refine Sm.b (Sm.ai ghh gk42) ?_
          rintro x43 _ rfl
          refine Sm.b (Sm.is ghh gi0) ?_
          intro _ _ _
          refine Sm.b (y_X11_isAlike gi0 ghh) ?_
          rintro v44 _ rfl
          refine Sm.l ?_
          exact Sm.s rfl
      · rintro p47 _ rfl
        refine Sm.b (Sm.gr ghh gi0) ?_
        rintro k48 k48' gk48
        refine Sm.b (y_X11_least ghh) ?_
        rintro v49 _ rfl
        refine Sm.b (Sm.si ghh gk48) ?_
        rintro w50 w50' gw50
        refine Sm.b (Sm.gr gw50 gi0) ?_
        rintro k51 k51' gk51
        refine Sm.b (R := Eq) ?_ ?_
        · refine Sm.i ?_ ?_
          · refine Sm.b (Sm.gr gw50 gi0) ?_
            rintro k52 k52' gk52
            refine Sm.b (Sm.ai gw50 gk52) ?_
            rintro x53 _ rfl
            exact Sm.s rfl
          · refine Sm.b (Sm.gr gw50 gi0) ?_
            rintro k54 k54' gk54
            refine Sm.b (Sm.ai gw50 gk54) ?_
            rintro x55 _ rfl
            exact Sm.s rfl
        · rintro p56 _ rfl
          refine Sm.b (Sm.si gw50 gk51) ?_
          rintro w57 w57' gw57
          refine Sm.l ?_
          exact Sm.s (Ru.l (Rp.i rfl gw57))
set_option maxHeartbeats 2000000 in
theorem y_X11_compareAt_b141 {i0 i0' : Nat} {i1 : Int32} {i2 : Int32} {i3 : Int32} {i4 : Int32} {i5 : Int32} {i6 : Int32} (gi0 : (Rr r d) i0 i0') : ∀ s s', (Rp Eq (Em r d W0 H0 al)) s s' → Sm (Ru (Rp Eq (Em r d W0 H0 al)) (Em r d W0 H0 al)) (f_X11_compareAt_b141 i0 i1 i2 i3 i4 i5 i6 s) (f_X11_compareAt_b141 i0' i1 i2 i3 i4 i5 i6 s') := by
  rintro ⟨y7, hh⟩ ⟨_, hh'⟩ ⟨rfl, ghh⟩
  dsimp only [f_X11_compareAt_b141]
  refine Sm.i ?_ ?_
  · exact Sm.s (Ru.r ghh)
  · refine Sm.b (Sm.w (y_X11_compareAt_b151 gi0) tq_N (Rp.i rfl ghh)) ?_
    rintro o59 o59' go59
    refine Sm.l ?_
    exact Sm.s (Ru.l (Rp.i rfl go59))
set_option maxHeartbeats 2000000 in
theorem y_X11_compareAt {t t' : Nat} {a1 : Int32} {a2 : Int32} {a3 : Int32} {a4 : Int32} {h h' : tq_H} (gt : (Rr r d) t t') (gh : (Em r d W0 H0 al) h h') : Sm (Em r d W0 H0 al) (f_X11_compareAt t a1 a2 a3 a4 h) (f_X11_compareAt t' a1 a2 a3 a4 h') := by
  unfold f_X11_compareAt
  refine Sm.b (Sm.gr gh gt) ?_
  rintro k1 k1' gk1
  refine Sm.b (Sm.ai gh gk1) ?_
  rintro x2 _ rfl
  refine Sm.b (Sm.gr gh gt) ?_
  rintro k3 k3' gk3
  refine Sm.b (Sm.ai gh gk3) ?_
  rintro x4 _ rfl
  refine Sm.b (Sm.gr gh gt) ?_
  rintro k5 k5' gk5
  refine Sm.b (Sm.si gh gk5) ?_
  rintro w6 w6' gw6
  refine Sm.b (Sm.w (y_X11_compareAt_b41 gt) tq_N (Rp.i rfl gw6)) ?_
  rintro o12 o12' go12
  refine Sm.b (Sm.w (y_X11_compareAt_b91 gt) tq_N (Rp.i rfl go12)) ?_
  rintro o18 o18' go18
  refine Sm.b (Sm.w (y_X11_compareAt_b141 gt) tq_N (Rp.i rfl go18)) ?_
  rintro o61 o61' go61
  exact Sm.s go61
set_option maxHeartbeats 2000000 in
theorem y_X11_distance_b61 {i0 i0' : Nat} {i1 : Int32} {i2 : Int32} {i3 : Int32} (gi0 : (Rr r d) i0 i0') : ∀ s s', (Rp Eq (Em r d W0 H0 al)) s s' → Sm (Ru (Rp Eq (Em r d W0 H0 al)) (Em r d W0 H0 al)) (f_X11_distance_b61 i0 i1 i2 i3 s) (f_X11_distance_b61 i0' i1 i2 i3 s') := by
  rintro ⟨y4, hh⟩ ⟨_, hh'⟩ ⟨rfl, ghh⟩
  dsimp only [f_X11_distance_b61]
  refine Sm.b (Sm.gr ghh gi0) ?_
  rintro k16 k16' gk16
  refine Sm.b (Sm.ai ghh gk16) ?_
  rintro x17 _ rfl
  refine Sm.i ?_ ?_
  · exact Sm.s (Ru.r ghh)
  · refine Sm.b (Sm.is ghh gi0) ?_
    intro _ _ _
    refine Sm.b (y_X11_isKey gi0 ghh) ?_
    rintro v18 _ rfl
    refine Sm.b (R := (Em r d W0 H0 al)) ?_ ?_
    · refine Sm.i ?_ ?_
      · exact Sm.s ghh
      · refine Sm.b (Sm.is ghh gi0) ?_
        intro _ _ _
        refine Sm.b (y_X11_isKey gi0 ghh) ?_
        rintro v20 _ rfl
        refine Sm.i ?_ ?_
        · exact Sm.s ghh
        · refine Sm.b (Sm.is ghh gi0) ?_
          intro _ _ _
          refine Sm.b (y_X11_compareAt gi0 ghh) ?_
          rintro v22 v22' gv22
          exact Sm.s gv22
    · rintro p24 p24' gp24
      refine Sm.l ?_
      exact Sm.s (Ru.l (Rp.i rfl gp24))
set_option maxHeartbeats 2000000 in
theorem y_X11_distance_b48 {i0 i0' : Nat} {i1 : Int32} {i2 : Int32} (gi0 : (Rr r d) i0 i0') : ∀ s s', (Rp Eq (Em r d W0 H0 al)) s s' → Sm (Ru (Rp Eq (Em r d W0 H0 al)) (Em r d W0 H0 al)) (f_X11_distance_b48 i0 i1 i2 s) (f_X11_distance_b48 i0' i1 i2 s') := by
  rintro ⟨y3, hh⟩ ⟨_, hh'⟩ ⟨rfl, ghh⟩
  dsimp only [f_X11_distance_b48]
  refine Sm.b (Sm.gr ghh gi0) ?_
  rintro k14 k14' gk14
  refine Sm.b (Sm.ai ghh gk14) ?_
  rintro x15 _ rfl
  refine Sm.i ?_ ?_
  · exact Sm.s (Ru.r ghh)
  · refine Sm.b (Sm.w (y_X11_distance_b61 gi0) tq_N (Rp.i rfl ghh)) ?_
    rintro o26 o26' go26
    refine Sm.l ?_
    exact Sm.s (Ru.l (Rp.i rfl go26))
set_option maxHeartbeats 2000000 in
theorem y_X11_distance {t t' : Nat} {a1 : Int32} {a2 : Int32} {h h' : tq_H} (gt : (Rr r d) t t') (gh : (Em r d W0 H0 al) h h') : Sm (Rp Eq (Em r d W0 H0 al)) (f_X11_distance t a1 a2 h) (f_X11_distance t' a1 a2 h') := by
  unfold f_X11_distance
  refine Sm.b (Sm.is gh gt) ?_
  intro _ _ _
  refine Sm.b (y_X11_isVersion gt gh) ?_
  rintro v1 _ rfl
  refine Sm.b (R := Eq) ?_ ?_
  · refine Sm.i ?_ ?_
    · exact Sm.s rfl
    · refine Sm.b (Sm.is gh gt) ?_
      intro _ _ _
      refine Sm.b (y_X11_isVersion gt gh) ?_
      rintro v3 _ rfl
      refine Sm.i ?_ ?_
      · exact Sm.s rfl
      · exact Sm.s rfl
  · rintro p5 _ rfl
    refine Sm.b (Sm.is gh gt) ?_
    intro _ _ _
    refine Sm.b (y_X11_refused gt gh) ?_
    rintro ⟨v6a, v6b⟩ ⟨_, v6b'⟩ ⟨rfl, gv6b⟩
    refine Sm.i ?_ ?_
    · refine Sm.b (Sm.is gv6b gt) ?_
      intro _ _ _
      refine Sm.b (y_X11_remember gt gv6b) ?_
      rintro v8 v8' gv8
      refine Sm.b (Sm.is gv8 gt) ?_
      intro _ _ _
      refine Sm.b (y_X11_layOut gt gv8) ?_
      rintro v10 v10' gv10
      refine Sm.b (Sm.is gv10 gt) ?_
      intro _ _ _
      refine Sm.b (y_X11_layOut gt gv10) ?_
      rintro v12 v12' gv12
      refine Sm.b (Sm.w (y_X11_distance_b48 gt) tq_N (Rp.i rfl gv12)) ?_
      rintro o28 o28' go28
      refine Sm.b (Sm.is go28 gt) ?_
      intro _ _ _
      refine Sm.b (y_X11_comeBack gt go28) ?_
      rintro v29 v29' gv29
      refine Sm.b (Sm.is gv29 gt) ?_
      intro _ _ _
      refine Sm.b (y_X11_arrange gt gv29) ?_
      rintro v31 v31' gv31
      refine Sm.b (Sm.gr gv31 gt) ?_
      rintro k33 k33' gk33
      refine Sm.b (Sm.gr gv31 gt) ?_
      rintro k34 k34' gk34
      refine Sm.b (Sm.ai gv31 gk34) ?_
      rintro x35 _ rfl
      refine Sm.b (Sm.gr gv31 gt) ?_
      rintro k36 k36' gk36
      refine Sm.b (Sm.ai gv31 gk36) ?_
      rintro x37 _ rfl
      refine Sm.b (Sm.ai gv31 gk33) ?_
      rintro x38 _ rfl
      exact Sm.s (Rp.i rfl gv31)
    · exact Sm.s (Rp.i rfl gv6b)
set_option maxHeartbeats 2000000 in
theorem y_X11_differ {t t' : Nat} {a1 : Int32} {a2 : Int32} {h h' : tq_H} (gt : (Rr r d) t t') (gh : (Em r d W0 H0 al) h h') : Sm Eq (f_X11_differ t a1 a2 h) (f_X11_differ t' a1 a2 h') := by
  unfold f_X11_differ
  refine Sm.b (Sm.gr gh gt) ?_
  rintro k1 k1' gk1
  refine Sm.b (Sm.ai gh gk1) ?_
  rintro x2 _ rfl
  refine Sm.b (Sm.gr gh gt) ?_
  rintro k3 k3' gk3
  refine Sm.b (Sm.ai gh gk3) ?_
  rintro x4 _ rfl
  refine Sm.b (R := Eq) ?_ ?_
  · refine Sm.i ?_ ?_
    · refine Sm.b (Sm.gr gh gt) ?_
      rintro k5 k5' gk5
      refine Sm.b (Sm.ai gh gk5) ?_
      rintro x6 _ rfl
      refine Sm.b (Sm.gr gh gt) ?_
      rintro k7 k7' gk7
      refine Sm.b (Sm.ai gh gk7) ?_
      rintro x8 _ rfl
      refine Sm.i ?_ ?_
      · refine Sm.b (Sm.gr gh gt) ?_
        rintro k9 k9' gk9
        refine Sm.b (Sm.ai gh gk9) ?_
        rintro x10 _ rfl
        refine Sm.b (Sm.gr gh gt) ?_
        rintro k11 k11' gk11
        refine Sm.b (Sm.ai gh gk11) ?_
        rintro x12 _ rfl
        refine Sm.i ?_ ?_
        · refine Sm.b (Sm.gr gh gt) ?_
          rintro k13 k13' gk13
          refine Sm.b (Sm.ai gh gk13) ?_
          rintro x14 _ rfl
          refine Sm.b (Sm.gr gh gt) ?_
          rintro k15 k15' gk15
          refine Sm.b (Sm.ai gh gk15) ?_
          rintro x16 _ rfl
          refine Sm.i ?_ ?_
          · exact Sm.s rfl
          · exact Sm.s rfl
        · exact Sm.s rfl
      · exact Sm.s rfl
    · exact Sm.s rfl
  · rintro p17 _ rfl
    refine Sm.b (Sm.gr gh gt) ?_
    rintro k18 k18' gk18
    refine Sm.b (Sm.az gh gk18) ?_
    rintro x19 _ rfl
    refine Sm.b (Sm.gr gh gt) ?_
    rintro k20 k20' gk20
    refine Sm.b (Sm.az gh gk20) ?_
    rintro x21 _ rfl
    refine Sm.b (R := Eq) ?_ ?_
    · refine Sm.i ?_ ?_
      · refine Sm.b (Sm.gr gh gt) ?_
        rintro k22 k22' gk22
        refine Sm.b (Sm.az gh gk22) ?_
        rintro x23 _ rfl
        refine Sm.i ?_ ?_
        · exact Sm.s rfl
        · refine Sm.i ?_ ?_
          · exact Sm.s rfl
          · exact Sm.s rfl
      · exact Sm.s rfl
    · rintro p24 _ rfl
      refine Sm.b (Sm.r) ?_
      rintro z25 _ rfl
      exact Sm.s rfl
set_option maxHeartbeats 2000000 in
theorem y_X11_odds_b56 {i0 i0' : Nat} {i1 : Int32} {i2 : Int32} {i3 : Int32} {hh hh' : tq_H} (gi0 : (Rr r d) i0 i0') (ghh : (Em r d W0 H0 al) hh hh') : ∀ s s', (Rp Eq Eq) s s' → Sm (Ru (Rp Eq Eq) Eq) (f_X11_odds_b56 i0 i1 i2 i3 hh s) (f_X11_odds_b56 i0' i1 i2 i3 hh' s') := by
  rintro ⟨y5, y6⟩ ⟨_, _⟩ ⟨rfl, rfl⟩
  dsimp only [f_X11_odds_b56]
  refine Sm.b (Sm.gi ghh gi0) ?_
  rintro x11 _ rfl
  refine Sm.i ?_ ?_
  · exact Sm.s (Ru.r rfl)
  · refine Sm.l ?_
    refine Sm.l ?_
    refine Sm.l ?_
    refine Sm.b (Sm.is ghh gi0) ?_
    intro _ _ _
    refine Sm.b (y_X11_differ gi0 ghh) ?_
    rintro v15 _ rfl
    refine Sm.b (R := Eq) ?_ ?_
    · refine Sm.i ?_ ?_
      · exact Sm.s rfl
      · refine Sm.b (Sm.is ghh gi0) ?_
        intro _ _ _
        refine Sm.b (y_X11_differ gi0 ghh) ?_
        rintro v17 _ rfl
        refine Sm.i ?_ ?_
        · exact Sm.s rfl
        · refine Sm.b (Sm.is ghh gi0) ?_
          intro _ _ _
          refine Sm.b (y_X11_differ gi0 ghh) ?_
          rintro v19 _ rfl
          refine Sm.i ?_ ?_
          · exact Sm.s rfl
          · exact Sm.s rfl
    · rintro p21 _ rfl
      refine Sm.l ?_
      refine Sm.l ?_
      exact Sm.s (Ru.l (Rp.i rfl rfl))
set_option maxHeartbeats 2000000 in
theorem y_X11_odds {t t' : Nat} {a1 : Int32} {a2 : Int32} {a3 : Int32} {h h' : tq_H} (gt : (Rr r d) t t') (gh : (Em r d W0 H0 al) h h') : Sm (Rp Eq (Em r d W0 H0 al)) (f_X11_odds t a1 a2 a3 h) (f_X11_odds t' a1 a2 a3 h') := by
  unfold f_X11_odds
  refine Sm.b (Sm.is gh gt) ?_
  intro _ _ _
  refine Sm.b (y_X11_isVersion gt gh) ?_
  rintro v1 _ rfl
  refine Sm.b (R := Eq) ?_ ?_
  · refine Sm.i ?_ ?_
    · exact Sm.s rfl
    · refine Sm.b (Sm.is gh gt) ?_
      intro _ _ _
      refine Sm.b (y_X11_isVersion gt gh) ?_
      rintro v3 _ rfl
      refine Sm.i ?_ ?_
      · exact Sm.s rfl
      · refine Sm.b (Sm.is gh gt) ?_
        intro _ _ _
        refine Sm.b (y_X11_isVersion gt gh) ?_
        rintro v5 _ rfl
        refine Sm.i ?_ ?_
        · exact Sm.s rfl
        · exact Sm.s rfl
  · rintro p7 _ rfl
    refine Sm.l ?_
    refine Sm.b (Sm.is gh gt) ?_
    intro _ _ _
    refine Sm.b (y_X11_refused gt gh) ?_
    rintro ⟨v9a, v9b⟩ ⟨_, v9b'⟩ ⟨rfl, gv9b⟩
    refine Sm.i ?_ ?_
    · refine Sm.b (Sm.w (y_X11_odds_b56 gt gv9b) tq_N (Rp.i rfl rfl)) ?_
      rintro o24 _ rfl
      exact Sm.s (Rp.i rfl gv9b)
    · exact Sm.s (Rp.i rfl gv9b)
set_option maxHeartbeats 2000000 in
theorem y_X11_hide_b4 {i0 i0' : Nat} {i1 : Int32} {hh hh' : tq_H} (gi0 : (Rr r d) i0 i0') (ghh : (Em r d W0 H0 al) hh hh') : ∀ s s', (Rp Eq Eq) s s' → Sm (Ru (Rp Eq Eq) Eq) (f_X11_hide_b4 i0 i1 hh s) (f_X11_hide_b4 i0' i1 hh' s') := by
  rintro ⟨y2, y3⟩ ⟨_, _⟩ ⟨rfl, rfl⟩
  dsimp only [f_X11_hide_b4]
  refine Sm.b (Sm.gi ghh gi0) ?_
  rintro x1 _ rfl
  refine Sm.i ?_ ?_
  · exact Sm.s (Ru.r rfl)
  · refine Sm.b (Sm.gr ghh gi0) ?_
    rintro k2 k2' gk2
    refine Sm.b (Sm.ai ghh gk2) ?_
    rintro x3 _ rfl
    refine Sm.l ?_
    refine Sm.l ?_
    exact Sm.s (Ru.l (Rp.i rfl rfl))
set_option maxHeartbeats 2000000 in
theorem y_X11_hide {t t' : Nat} {a1 : Int32} {h h' : tq_H} (gt : (Rr r d) t t') (gh : (Em r d W0 H0 al) h h') : Sm (Rp Eq (Em r d W0 H0 al)) (f_X11_hide t a1 h) (f_X11_hide t' a1 h') := by
  unfold f_X11_hide
  refine Sm.b (Sm.w (y_X11_hide_b4 gt gh) tq_N (Rp.i rfl rfl)) ?_
  rintro o6 _ rfl
  refine Sm.b (Sm.is gh gt) ?_
  intro _ _ _
  refine Sm.b (y_X11_isPath gt gh) ?_
  rintro v7 _ rfl
  refine Sm.b (R := Eq) ?_ ?_
  · refine Sm.i ?_ ?_
    · exact Sm.s rfl
    · refine Sm.i ?_ ?_
      · refine Sm.b (Sm.gi gh gt) ?_
        rintro x9 _ rfl
        refine Sm.i ?_ ?_
        · exact Sm.s rfl
        · exact Sm.s rfl
      · exact Sm.s rfl
  · rintro p10 _ rfl
    refine Sm.b (Sm.is gh gt) ?_
    intro _ _ _
    refine Sm.b (y_X11_refused gt gh) ?_
    rintro ⟨v11a, v11b⟩ ⟨_, v11b'⟩ ⟨rfl, gv11b⟩
    refine Sm.i ?_ ?_
    · refine Sm.i ?_ ?_
      · refine Sm.b (Sm.gr gv11b gt) ?_
        rintro k20 k20' gk20
        refine Sm.b (Sm.gi gv11b gt) ?_
        rintro x21 _ rfl
        refine Sm.b (Sm.si gv11b gk20) ?_
        rintro w22 w22' gw22
        refine Sm.b (Sm.gi gw22 gt) ?_
        rintro x23 _ rfl
        refine Sm.b (Sm.pf gw22 gt (okV_i _)) ?_
        rintro w24 w24' gw24
        exact Sm.s (Rp.i rfl gw24)
      · refine Sm.b (Sm.gi gv11b gt) ?_
        rintro x13 _ rfl
        refine Sm.b (Sm.pf gv11b gt (okV_i _)) ?_
        rintro w14 w14' gw14
        refine Sm.b (Sm.gr gw14 gt) ?_
        rintro k15 k15' gk15
        refine Sm.b (Sm.gr gw14 gt) ?_
        rintro k16 k16' gk16
        refine Sm.b (Sm.gi gw14 gt) ?_
        rintro x17 _ rfl
        refine Sm.b (Sm.ai gw14 gk16) ?_
        rintro x18 _ rfl
        refine Sm.b (Sm.si gw14 gk15) ?_
        rintro w19 w19' gw19
        exact Sm.s (Rp.i rfl gw19)
    · exact Sm.s (Rp.i rfl gv11b)
set_option maxHeartbeats 2000000 in
theorem y_X11_isSeen {t t' : Nat} {a1 : Int32} {h h' : tq_H} (gt : (Rr r d) t t') (gh : (Em r d W0 H0 al) h h') : Sm (Rp Eq (Em r d W0 H0 al)) (f_X11_isSeen t a1 h) (f_X11_isSeen t' a1 h') := by
  unfold f_X11_isSeen
  refine Sm.b (Sm.is gh gt) ?_
  intro _ _ _
  refine Sm.b (y_X11_noNode gt gh) ?_
  rintro ⟨v1a, v1b⟩ ⟨_, v1b'⟩ ⟨rfl, gv1b⟩
  refine Sm.b (R := (Rp Eq (Em r d W0 H0 al))) ?_ ?_
  · refine Sm.i ?_ ?_
    · refine Sm.b (Sm.is gv1b gt) ?_
      intro _ _ _
      refine Sm.b (y_X11_seen gt gv1b) ?_
      rintro ⟨v3a, v3b⟩ ⟨_, v3b'⟩ ⟨rfl, gv3b⟩
      refine Sm.i ?_ ?_
      · exact Sm.s (Rp.i rfl gv3b)
      · exact Sm.s (Rp.i rfl gv3b)
    · exact Sm.s (Rp.i rfl gv1b)
  · rintro ⟨p5a, p5b⟩ ⟨_, p5b'⟩ ⟨rfl, gp5b⟩
    refine Sm.b (Sm.r) ?_
    rintro z6 _ rfl
    exact Sm.s (Rp.i rfl gp5b)
end SY
