/-! ===== the reference as functions, no walk of it: a ghost ===== -/
def f_X11_attributeOf_b5 (i0 : Nat) (i1 : Int32) (i2 : Int32) (hh : tq_H) (s : Int32 × Int32) : Option ((Int32 × Int32) ⊕ (Int32)) := match s with
  | (y3, y4) =>
    (tq_gi hh i0 11 1).bind fun x1 =>
    if y4 ≥ x1 then
      some (.inr y3)
    else
      (tq_gr hh i0 11 9).bind fun k2 =>
      (tq_az hh k2 y4).bind fun x3 =>
      (if x3 = 0 then
        some y3
      else
        (tq_gr hh i0 11 6).bind fun k4 =>
        (tq_ai hh k4 y4).bind fun x5 =>
        if x5 = i1 then
          (tq_gr hh i0 11 2).bind fun k6 =>
          (tq_ai hh k6 y4).bind fun x7 =>
          if x7 = (2 : Int32) then
            (tq_gr hh i0 11 3).bind fun k8 =>
            (tq_ai hh k8 y4).bind fun x9 =>
            if x9 = i2 then
              some y4
            else
              some y3
          else
            some y3
        else
          some y3).bind fun p10 =>
      tq_let (y4 + (1 : Int32)) fun x11 =>
      some (.inl (p10, x11))
def f_X11_attributeOf (t : Nat) (a1 : Int32) (a2 : Int32) (h : tq_H) : Option (Int32) :=
  (tq_loop (f_X11_attributeOf_b5 t a1 a2 h) tq_N ((-1 : Int32), (0 : Int32))).bind fun o12 =>
  some o12
def f_X11_childCount_b4 (i0 : Nat) (i1 : Int32) (hh : tq_H) (s : Int32 × Int32) : Option ((Int32 × Int32) ⊕ (Int32)) := match s with
  | (y2, y3) =>
    (tq_gi hh i0 11 1).bind fun x1 =>
    if y3 ≥ x1 then
      some (.inr y2)
    else
      (tq_gr hh i0 11 9).bind fun k2 =>
      (tq_az hh k2 y3).bind fun x3 =>
      (if x3 = 0 then
        some (0 : Int32)
      else
        (tq_gr hh i0 11 6).bind fun k4 =>
        (tq_ai hh k4 y3).bind fun x5 =>
        if x5 = i1 then
          (tq_gr hh i0 11 2).bind fun k6 =>
          (tq_ai hh k6 y3).bind fun x7 =>
          if x7 = (2 : Int32) then
            some (0 : Int32)
          else
            some (1 : Int32)
        else
          some (0 : Int32)).bind fun p8 =>
      tq_let ((y2 + p8)) fun x9 =>
      tq_let (y3 + (1 : Int32)) fun x10 =>
      some (.inl (x9, x10))
def f_X11_childCount (t : Nat) (a1 : Int32) (h : tq_H) : Option (Int32) :=
  (tq_loop (f_X11_childCount_b4 t a1 h) tq_N ((0 : Int32), (0 : Int32))).bind fun o11 =>
  some o11
def f_X11_childAt_b5 (i0 : Nat) (i1 : Int32) (i2 : Int32) (hh : tq_H) (s : Int32 × Int32) : Option ((Int32 × Int32) ⊕ (Int32)) := match s with
  | (y3, y4) =>
    (tq_gi hh i0 11 1).bind fun x1 =>
    if y4 ≥ x1 then
      some (.inr y3)
    else
      (tq_gr hh i0 11 9).bind fun k2 =>
      (tq_az hh k2 y4).bind fun x3 =>
      (if x3 = 0 then
        some y3
      else
        (tq_gr hh i0 11 6).bind fun k4 =>
        (tq_ai hh k4 y4).bind fun x5 =>
        if x5 = i1 then
          (tq_gr hh i0 11 2).bind fun k6 =>
          (tq_ai hh k6 y4).bind fun x7 =>
          if x7 = (2 : Int32) then
            some y3
          else
            (tq_gr hh i0 11 7).bind fun k8 =>
            (tq_ai hh k8 y4).bind fun x9 =>
            if x9 = i2 then
              some y4
            else
              some y3
        else
          some y3).bind fun p10 =>
      tq_let (y4 + (1 : Int32)) fun x11 =>
      some (.inl (p10, x11))
def f_X11_childAt (t : Nat) (a1 : Int32) (a2 : Int32) (h : tq_H) : Option (Int32) :=
  (tq_loop (f_X11_childAt_b5 t a1 a2 h) tq_N ((-1 : Int32), (0 : Int32))).bind fun o12 =>
  some o12
def f_X11_arrange_b16 (i0 : Nat) (i1 : Int32) (s : Int32 × tq_H) : Option ((Int32 × tq_H) ⊕ (tq_H)) := match s with
  | (y2, hh) =>
    if y2 ≥ (60 : Int32) then
      some (.inr hh)
    else
      (tq_gr hh i0 11 13).bind fun k4 =>
      (tq_si hh k4 y2 (-1 : Int32)).bind fun w5 =>
      tq_let (y2 + (1 : Int32)) fun x6 =>
      some (.inl (x6, w5))
def f_X11_arrange_b81 (i0 : Nat) (i1 : Int32) (i2 : Int32) (s : Int32 × tq_H) : Option ((Int32 × tq_H) ⊕ (tq_H)) := match s with
  | (y3, hh) =>
    if y3 ≥ (8 : Int32) then
      some (.inr hh)
    else
      (tq_is hh i0 11).bind fun _ =>
      (f_X11_attributeOf i0 i2 y3 hh).bind fun v19 =>
      (if v19 = (-1 : Int32) then
        some hh
      else
        (tq_gr hh i0 11 12).bind fun k21 =>
        (tq_gi hh i0 11 11).bind fun x22 =>
        (tq_si hh k21 x22 v19).bind fun w23 =>
        (tq_gr w23 i0 11 13).bind fun k24 =>
        (tq_gi w23 i0 11 11).bind fun x25 =>
        (tq_si w23 k24 v19 x25).bind fun w26 =>
        (tq_gi w26 i0 11 11).bind fun x27 =>
        (tq_pf w26 i0 11 11 (.int ((x27 + (1 : Int32))))).bind fun w28 =>
        some w28).bind fun p29 =>
      tq_let (y3 + (1 : Int32)) fun x30 =>
      some (.inl (x30, p29))
def f_X11_arrange_b147 (i0 : Nat) (i2 : Int32) (s : Int32 × Int32 × tq_H) : Option ((Int32 × Int32 × tq_H) ⊕ (Int32 × tq_H)) := match s with
  | (y1, y3, hh) =>
    if y3 < 0 then
      some (.inr (y1, hh))
    else
      (tq_gr hh i0 11 14).bind fun k35 =>
      (tq_is hh i0 11).bind fun _ =>
      (f_X11_childAt i0 i2 y3 hh).bind fun v36 =>
      (tq_si hh k35 y1 v36).bind fun w38 =>
      tq_let (y1 + (1 : Int32)) fun x39 =>
      tq_let (y3 + (-1 : Int32)) fun x40 =>
      some (.inl (x39, x40, w38))
def f_X11_arrange_b35 (i0 : Nat) (s : Int32 × tq_H) : Option ((Int32 × tq_H) ⊕ (tq_H)) := match s with
  | (y1, hh) =>
    if y1 ≤ 0 then
      some (.inr hh)
    else
      tq_let (y1 + (-1 : Int32)) fun x8 =>
      (tq_gr hh i0 11 14).bind fun k9 =>
      (tq_ai hh k9 x8).bind fun x10 =>
      (tq_gr hh i0 11 12).bind fun k11 =>
      (tq_gi hh i0 11 11).bind fun x12 =>
      (tq_si hh k11 x12 x10).bind fun w13 =>
      (tq_gr w13 i0 11 13).bind fun k14 =>
      (tq_gi w13 i0 11 11).bind fun x15 =>
      (tq_si w13 k14 x10 x15).bind fun w16 =>
      (tq_gi w16 i0 11 11).bind fun x17 =>
      (tq_pf w16 i0 11 11 (.int ((x17 + (1 : Int32))))).bind fun w18 =>
      (tq_loop (f_X11_arrange_b81 i0 x8 x10) tq_N ((0 : Int32), w18)).bind fun o31 =>
      (tq_is o31 i0 11).bind fun _ =>
      (f_X11_childCount i0 x10 o31).bind fun v32 =>
      tq_let ((v32 - (1 : Int32))) fun x34 =>
      (tq_loop (f_X11_arrange_b147 i0 x10) tq_N (x8, x34, o31)).bind fun o41 =>
      some (.inl (o41.1, o41.2))
def f_X11_arrange (t : Nat) (h : tq_H) : Option (tq_H) :=
  (tq_pf h t 11 11 (.int (0 : Int32))).bind fun w1 =>
  (tq_gr w1 t 11 14).bind fun k2 =>
  (tq_si w1 k2 (0 : Int32) (0 : Int32)).bind fun w3 =>
  (tq_loop (f_X11_arrange_b16 t (1 : Int32)) tq_N ((0 : Int32), w3)).bind fun o7 =>
  (tq_loop (f_X11_arrange_b35 t) tq_N ((1 : Int32), o7)).bind fun o42 =>
  some o42
def f_X11_init_b456 (i0 : Nat) (s : Int32 × tq_H) : Option ((Int32 × tq_H) ⊕ (tq_H)) := match s with
  | (y1, hh) =>
    if y1 ≥ (6 : Int32) then
      some (.inr hh)
    else
      (tq_gr hh i0 11 36).bind fun k112 =>
      (tq_si hh k112 y1 (-1 : Int32)).bind fun w113 =>
      (tq_gr w113 i0 11 39).bind fun k114 =>
      (tq_si w113 k114 y1 (1 : Int32)).bind fun w115 =>
      tq_let (y1 + (1 : Int32)) fun x116 =>
      some (.inl (x116, w115))
def f_X11_init (t : Nat) (h : tq_H) : Option (tq_H) :=
  tq_let (tq_new h (.inr (0, (60, .inl (fun _ => 0))))) fun w1 =>
  (tq_pf w1 t 11 2 (.ref h.1)).bind fun w2 =>
  tq_let (tq_new w2 (.inr (0, (60, .inl (fun _ => 0))))) fun w3 =>
  (tq_pf w3 t 11 3 (.ref w2.1)).bind fun w4 =>
  tq_let (tq_new w4 (.inr (0, (60, .inl (fun _ => 0))))) fun w5 =>
  (tq_pf w5 t 11 4 (.ref w4.1)).bind fun w6 =>
  tq_let (tq_new w6 (.inr (0, (60, .inl (fun _ => 0))))) fun w7 =>
  (tq_pf w7 t 11 5 (.ref w6.1)).bind fun w8 =>
  tq_let (tq_new w8 (.inr (0, (60, .inl (fun _ => 0))))) fun w9 =>
  (tq_pf w9 t 11 6 (.ref w8.1)).bind fun w10 =>
  tq_let (tq_new w10 (.inr (0, (60, .inl (fun _ => 0))))) fun w11 =>
  (tq_pf w11 t 11 7 (.ref w10.1)).bind fun w12 =>
  tq_let (tq_new w12 (.inr (0, (60, .inl (fun _ => 0))))) fun w13 =>
  (tq_pf w13 t 11 8 (.ref w12.1)).bind fun w14 =>
  tq_let (tq_new w14 (.inr (1, (60, .inl (fun _ => 0))))) fun w15 =>
  (tq_pf w15 t 11 9 (.ref w14.1)).bind fun w16 =>
  tq_let (tq_new w16 (.inr (0, (60, .inl (fun _ => 0))))) fun w17 =>
  (tq_pf w17 t 11 12 (.ref w16.1)).bind fun w18 =>
  tq_let (tq_new w18 (.inr (0, (60, .inl (fun _ => 0))))) fun w19 =>
  (tq_pf w19 t 11 13 (.ref w18.1)).bind fun w20 =>
  tq_let (tq_new w20 (.inr (0, (64, .inl (fun _ => 0))))) fun w21 =>
  (tq_pf w21 t 11 14 (.ref w20.1)).bind fun w22 =>
  tq_let (tq_new w22 (.inr (0, (140, .inl (fun _ => 0))))) fun w23 =>
  (tq_pf w23 t 11 16 (.ref w22.1)).bind fun w24 =>
  tq_let (tq_new w24 (.inr (0, (60, .inl (fun _ => 0))))) fun w25 =>
  (tq_pf w25 t 11 17 (.ref w24.1)).bind fun w26 =>
  tq_let (tq_new w26 (.inr (0, (60, .inl (fun _ => 0))))) fun w27 =>
  (tq_pf w27 t 11 18 (.ref w26.1)).bind fun w28 =>
  tq_let (tq_new w28 (.inr (0, (60, .inl (fun _ => 0))))) fun w29 =>
  (tq_pf w29 t 11 19 (.ref w28.1)).bind fun w30 =>
  tq_let (tq_new w30 (.inr (0, (60, .inl (fun _ => 0))))) fun w31 =>
  (tq_pf w31 t 11 20 (.ref w30.1)).bind fun w32 =>
  tq_let (tq_new w32 (.inr (0, (60, .inl (fun _ => 0))))) fun w33 =>
  (tq_pf w33 t 11 21 (.ref w32.1)).bind fun w34 =>
  tq_let (tq_new w34 (.inr (1, (60, .inl (fun _ => 0))))) fun w35 =>
  (tq_pf w35 t 11 22 (.ref w34.1)).bind fun w36 =>
  tq_let (tq_new w36 (.inr (1, (60, .inl (fun _ => 0))))) fun w37 =>
  (tq_pf w37 t 11 23 (.ref w36.1)).bind fun w38 =>
  tq_let (tq_new w38 (.inr (0, (20, .inl (fun _ => 0))))) fun w39 =>
  (tq_pf w39 t 11 25 (.ref w38.1)).bind fun w40 =>
  tq_let (tq_new w40 (.inr (0, (300, .inl (fun _ => 0))))) fun w41 =>
  (tq_pf w41 t 11 26 (.ref w40.1)).bind fun w42 =>
  tq_let (tq_new w42 (.inr (0, (100, .inl (fun _ => 0))))) fun w43 =>
  (tq_pf w43 t 11 27 (.ref w42.1)).bind fun w44 =>
  tq_let (tq_new w44 (.inr (0, (800, .inl (fun _ => 0))))) fun w45 =>
  (tq_pf w45 t 11 28 (.ref w44.1)).bind fun w46 =>
  tq_let (tq_new w46 (.inr (2, (1200, .inr (.inl (fun _ => 0)))))) fun w47 =>
  (tq_pf w47 t 11 29 (.ref w46.1)).bind fun w48 =>
  tq_let (tq_new w48 (.inr (2, (300, .inr (.inl (fun _ => 0)))))) fun w49 =>
  (tq_pf w49 t 11 30 (.ref w48.1)).bind fun w50 =>
  tq_let (tq_new w50 (.inr (0, (3, .inl (fun _ => 0))))) fun w51 =>
  (tq_pf w51 t 11 34 (.ref w50.1)).bind fun w52 =>
  tq_let (tq_new w52 (.inr (0, (60, .inl (fun _ => 0))))) fun w53 =>
  (tq_pf w53 t 11 35 (.ref w52.1)).bind fun w54 =>
  tq_let (tq_new w54 (.inr (0, (6, .inl (fun _ => 0))))) fun w55 =>
  (tq_pf w55 t 11 36 (.ref w54.1)).bind fun w56 =>
  tq_let (tq_new w56 (.inr (1, (6, .inl (fun _ => 0))))) fun w57 =>
  (tq_pf w57 t 11 37 (.ref w56.1)).bind fun w58 =>
  tq_let (tq_new w58 (.inr (0, (48, .inl (fun _ => 0))))) fun w59 =>
  (tq_pf w59 t 11 38 (.ref w58.1)).bind fun w60 =>
  tq_let (tq_new w60 (.inr (0, (6, .inl (fun _ => 0))))) fun w61 =>
  (tq_pf w61 t 11 39 (.ref w60.1)).bind fun w62 =>
  tq_let (tq_new w62 (.inr (0, (144, .inl (fun _ => 0))))) fun w63 =>
  (tq_pf w63 t 11 40 (.ref w62.1)).bind fun w64 =>
  tq_let (tq_new w64 (.inr (0, (60, .inl (fun _ => 0))))) fun w65 =>
  (tq_pf w65 t 11 41 (.ref w64.1)).bind fun w66 =>
  tq_let (tq_new w66 (.inr (0, (5120, .inl (fun _ => 0))))) fun w67 =>
  (tq_pf w67 t 11 43 (.ref w66.1)).bind fun w68 =>
  tq_let (tq_new w68 (.inr (1, (8, .inl (fun _ => 0))))) fun w69 =>
  (tq_pf w69 t 11 44 (.ref w68.1)).bind fun w70 =>
  tq_let (tq_new w70 (.inr (0, (5, .inl (fun _ => 0))))) fun w71 =>
  (tq_pf w71 t 11 46 (.ref w70.1)).bind fun w72 =>
  tq_let (tq_new w72 (.inr (0, (5, .inl (fun _ => 0))))) fun w73 =>
  (tq_pf w73 t 11 47 (.ref w72.1)).bind fun w74 =>
  tq_let (tq_new w74 (.inr (2, (5, .inr (.inl (fun _ => 0)))))) fun w75 =>
  (tq_pf w75 t 11 48 (.ref w74.1)).bind fun w76 =>
  tq_let (tq_new w76 (.inr (1, (360, .inl (fun _ => 0))))) fun w77 =>
  (tq_pf w77 t 11 50 (.ref w76.1)).bind fun w78 =>
  tq_let (tq_new w78 (.inr (0, (360, .inl (fun _ => 0))))) fun w79 =>
  (tq_pf w79 t 11 51 (.ref w78.1)).bind fun w80 =>
  tq_let (tq_new w80 (.inr (0, (360, .inl (fun _ => 0))))) fun w81 =>
  (tq_pf w81 t 11 52 (.ref w80.1)).bind fun w82 =>
  tq_let (tq_new w82 (.inr (0, (360, .inl (fun _ => 0))))) fun w83 =>
  (tq_pf w83 t 11 53 (.ref w82.1)).bind fun w84 =>
  tq_let (tq_new w84 (.inr (0, (360, .inl (fun _ => 0))))) fun w85 =>
  (tq_pf w85 t 11 54 (.ref w84.1)).bind fun w86 =>
  tq_let (tq_new w86 (.inr (0, (360, .inl (fun _ => 0))))) fun w87 =>
  (tq_pf w87 t 11 55 (.ref w86.1)).bind fun w88 =>
  tq_let (tq_new w88 (.inr (0, (2, .inl (fun _ => 0))))) fun w89 =>
  (tq_pf w89 t 11 56 (.ref w88.1)).bind fun w90 =>
  tq_let (tq_new w90 (.inr (0, (122, .inl (fun _ => 0))))) fun w91 =>
  (tq_pf w91 t 11 57 (.ref w90.1)).bind fun w92 =>
  tq_let (tq_new w92 (.inr (0, (122, .inl (fun _ => 0))))) fun w93 =>
  (tq_pf w93 t 11 58 (.ref w92.1)).bind fun w94 =>
  tq_let (tq_new w94 (.inr (0, (3721, .inl (fun _ => 0))))) fun w95 =>
  (tq_pf w95 t 11 59 (.ref w94.1)).bind fun w96 =>
  tq_let (tq_new w96 (.inr (0, (3721, .inl (fun _ => 0))))) fun w97 =>
  (tq_pf w97 t 11 60 (.ref w96.1)).bind fun w98 =>
  (tq_pf w98 t 11 1 (.int (1 : Int32))).bind fun w99 =>
  (tq_gr w99 t 11 9).bind fun k100 =>
  (tq_sz w99 k100 (0 : Int32) (1 : Int32)).bind fun w101 =>
  (tq_gr w101 t 11 2).bind fun k102 =>
  (tq_si w101 k102 (0 : Int32) (0 : Int32)).bind fun w103 =>
  (tq_gr w103 t 11 4).bind fun k104 =>
  (tq_si w103 k104 (0 : Int32) (-1 : Int32)).bind fun w105 =>
  (tq_gr w105 t 11 5).bind fun k106 =>
  (tq_si w105 k106 (0 : Int32) (-1 : Int32)).bind fun w107 =>
  (tq_gr w107 t 11 6).bind fun k108 =>
  (tq_si w107 k108 (0 : Int32) (-1 : Int32)).bind fun w109 =>
  (tq_gr w109 t 11 8).bind fun k110 =>
  (tq_si w109 k110 (0 : Int32) (16 : Int32)).bind fun w111 =>
  (tq_loop (f_X11_init_b456 t) tq_N ((0 : Int32), w111)).bind fun o117 =>
  (tq_is o117 t 11).bind fun _ =>
  (f_X11_arrange t o117).bind fun v118 =>
  some v118
def f_X11_thrown (t : Nat) (h : tq_H) : Option (Int32) :=
  (tq_gi h t 11 0).bind fun x1 =>
  some x1
def f_X11_refused (t : Nat) (a1 : Int32) (h : tq_H) : Option (Int32 × tq_H) :=
  (tq_pf h t 11 0 (.int a1)).bind fun w1 =>
  tq_let (if a1 = 0 then (0 : Int32) else (1 : Int32)) fun p2 =>
  (tq_bz p2).bind fun z3 =>
  some (z3, w1)
def f_X11_fine (t : Nat) (a1 : Int32) (h : tq_H) : Option (Int32 × tq_H) :=
  (tq_pf h t 11 0 (.int (0 : Int32))).bind fun w1 =>
  some (a1, w1)
def f_X11_in (a0 : Int32) (a1 : Int32) (a2 : Int32) (h : tq_H) : Option (Int32) :=
  tq_let (if a0 < a1 then (0 : Int32) else (if a0 > a2 then (0 : Int32) else (1 : Int32))) fun p1 =>
  (tq_bz p1).bind fun z2 =>
  some z2
def f_X11_isNode (t : Nat) (a1 : Int32) (h : tq_H) : Option (Int32) :=
  (tq_gi h t 11 1).bind fun x1 =>
  (f_X11_in a1 (0 : Int32) (x1 - (1 : Int32)) h).bind fun v2 =>
  (if v2 = 0 then
    some (0 : Int32)
  else
    (tq_gr h t 11 9).bind fun k3 =>
    (tq_az h k3 a1).bind fun x4 =>
    if x4 = 0 then
      some (0 : Int32)
    else
      some (1 : Int32)).bind fun p5 =>
  (tq_bz p5).bind fun z6 =>
  some z6
def f_X11_isBelow_b7 (i0 : Nat) (i2 : Int32) (hh : tq_H) (s : Int32) : Option ((Int32) ⊕ (Int32)) := match s with
  | y3 =>
    if y3 = (-1 : Int32) then
      some (.inr y3)
    else
      if y3 = i2 then
        some (.inr y3)
      else
        (tq_gr hh i0 11 6).bind fun k3 =>
        (tq_ai hh k3 y3).bind fun x4 =>
        some (.inl x4)
def f_X11_isBelow (t : Nat) (a1 : Int32) (a2 : Int32) (h : tq_H) : Option (Int32) :=
  (tq_gr h t 11 6).bind fun k1 =>
  (tq_ai h k1 a1).bind fun x2 =>
  (tq_loop (f_X11_isBelow_b7 t a2 h) tq_N x2).bind fun o5 =>
  tq_let (if o5 = (-1 : Int32) then (0 : Int32) else (1 : Int32)) fun p6 =>
  (tq_bz p6).bind fun z7 =>
  some z7
def f_X11_spaceOf_b2 (i0 : Nat) (hh : tq_H) (s : Int32) : Option ((Int32) ⊕ (Int32)) := match s with
  | y2 =>
    if y2 = (-1 : Int32) then
      some (.inr y2)
    else
      (tq_gr hh i0 11 5).bind fun k1 =>
      (tq_ai hh k1 y2).bind fun x2 =>
      if x2 = (-1 : Int32) then
        (tq_gr hh i0 11 6).bind fun k3 =>
        (tq_ai hh k3 y2).bind fun x4 =>
        some (.inl x4)
      else
        some (.inr y2)
def f_X11_spaceOf (t : Nat) (a1 : Int32) (h : tq_H) : Option (Int32) :=
  (tq_loop (f_X11_spaceOf_b2 t h) tq_N a1).bind fun o5 =>
  (if o5 = (-1 : Int32) then
    some (0 : Int32)
  else
    (tq_gr h t 11 5).bind fun k6 =>
    (tq_ai h k6 o5).bind fun x7 =>
    some x7).bind fun p8 =>
  some p8
def f_X11_valueOf_b27 (i0 : Nat) (i1 : Int32) (i2 : Int64) (hh : tq_H) (s : Int32 × Int32) : Option ((Int32 × Int32) ⊕ (Int32)) := match s with
  | (y4, y5) =>
    if y5 < 0 then
      some (.inr y4)
    else
      (tq_gr hh i0 11 12).bind fun k5 =>
      (tq_ai hh k5 y5).bind fun x6 =>
      (tq_gr hh i0 11 2).bind fun k7 =>
      (tq_ai hh k7 x6).bind fun x8 =>
      (if x8 = (1 : Int32) then
        if (lg_cmp ((i2 >>> (x6.toInt64 &&& 63)) &&& (1 : Int64)) (1 : Int64)) = 0 then
          (tq_is hh i0 11).bind fun _ =>
          (f_X11_isBelow i0 x6 i1 hh).bind fun v9 =>
          if v9 = 0 then
            some y4
          else
            (tq_gr hh i0 11 4).bind fun k11 =>
            (tq_ai hh k11 x6).bind fun x12 =>
            some x12
        else
          some y4
      else
        some y4).bind fun p13 =>
      tq_let (y5 + (-1 : Int32)) fun x14 =>
      some (.inl (p13, x14))
def f_X11_valueOf (t : Nat) (a1 : Int32) (a2 : Int64) (h : tq_H) : Option (Int32) :=
  (tq_gr h t 11 2).bind fun k1 =>
  (tq_ai h k1 a1).bind fun x2 =>
  if x2 = 0 then
    (tq_gi h t 11 11).bind fun x3 =>
    tq_let ((x3 - (1 : Int32))) fun x4 =>
    (tq_loop (f_X11_valueOf_b27 t a1 a2 h) tq_N ((-1 : Int32), x4)).bind fun o15 =>
    some o15
  else
    (tq_gr h t 11 4).bind fun k16 =>
    (tq_ai h k16 a1).bind fun x17 =>
    some x17
def f_X11_all_b4 (i0 : Nat) (hh : tq_H) (s : Int64 × Int32) : Option ((Int64 × Int32) ⊕ (Int64)) := match s with
  | (y1, y3) =>
    (tq_gi hh i0 11 11).bind fun x1 =>
    if y3 ≥ x1 then
      some (.inr y1)
    else
      (tq_gr hh i0 11 12).bind fun k2 =>
      (tq_ai hh k2 y3).bind fun x3 =>
      tq_let ((y1 ||| ((1 : Int64) <<< (x3.toInt64 &&& 63)))) fun x4 =>
      tq_let (y3 + (1 : Int32)) fun x5 =>
      some (.inl (x4, x5))
def f_X11_all (t : Nat) (h : tq_H) : Option (Int64) :=
  (tq_loop (f_X11_all_b4 t h) tq_N ((0 : Int64), (0 : Int32))).bind fun o6 =>
  some o6
def f_X11_collect (t : Nat) (a1 : Int32) (a2 : Int32) (a3 : Int32) (a4 : Int32) (a5 : Int32) (a6 : Int32) (a7 : Int32) (h : tq_H) : Option (Int32 × tq_H) :=
  (tq_gi h t 11 15).bind fun x1 =>
  tq_let (((7 : Int32) * x1)) fun x2 =>
  (tq_gr h t 11 16).bind fun k3 =>
  (tq_si h k3 x2 a1).bind fun w4 =>
  (tq_gr w4 t 11 16).bind fun k5 =>
  (tq_si w4 k5 (x2 + (1 : Int32)) a2).bind fun w6 =>
  (tq_gr w6 t 11 16).bind fun k7 =>
  (tq_si w6 k7 (x2 + (2 : Int32)) a3).bind fun w8 =>
  (tq_gr w8 t 11 16).bind fun k9 =>
  (tq_si w8 k9 (x2 + (3 : Int32)) a4).bind fun w10 =>
  (tq_gr w10 t 11 16).bind fun k11 =>
  (tq_si w10 k11 (x2 + (4 : Int32)) a5).bind fun w12 =>
  (tq_gr w12 t 11 16).bind fun k13 =>
  (tq_si w12 k13 (x2 + (5 : Int32)) a6).bind fun w14 =>
  (tq_gr w14 t 11 16).bind fun k15 =>
  (tq_si w14 k15 (x2 + (6 : Int32)) a7).bind fun w16 =>
  (tq_gi w16 t 11 15).bind fun x17 =>
  (tq_pf w16 t 11 15 (.int ((x17 + (1 : Int32))))).bind fun w18 =>
  (tq_gi w18 t 11 15).bind fun x19 =>
  some (x19, w18)
def f_X11_isSpot (t : Nat) (a1 : Int32) (a2 : Int32) (h : tq_H) : Option (Int32) :=
  (tq_is h t 11).bind fun _ =>
  (f_X11_isNode t a1 h).bind fun v1 =>
  (if v1 = 0 then
    some (0 : Int32)
  else
    (tq_gr h t 11 2).bind fun k3 =>
    (tq_ai h k3 a1).bind fun x4 =>
    (if x4 = 0 then
      (tq_is h t 11).bind fun _ =>
      (f_X11_childCount t a1 h).bind fun v5 =>
      some v5
    else
      some (0 : Int32)).bind fun p7 =>
    (f_X11_in a2 (0 : Int32) p7 h).bind fun v8 =>
    if v8 = 0 then
      some (0 : Int32)
    else
      some (1 : Int32)).bind fun p9 =>
  (tq_bz p9).bind fun z10 =>
  some z10
def f_X11_takes (t : Nat) (a1 : Int32) (h : tq_H) : Option (Int32) :=
  (tq_gr h t 11 2).bind fun k1 =>
  (tq_ai h k1 a1).bind fun x2 =>
  (if x2 = 0 then
    (tq_gi h t 11 15).bind fun x3 =>
    if x3 ≥ (20 : Int32) then
      some (0 : Int32)
    else
      some (1 : Int32)
  else
    some (0 : Int32)).bind fun p4 =>
  (tq_bz p4).bind fun z5 =>
  some z5
def f_X11_insertElement (t : Nat) (a1 : Int32) (a2 : Int32) (a3 : Int32) (h : tq_H) : Option (Int32 × tq_H) :=
  (tq_is h t 11).bind fun _ =>
  (f_X11_isSpot t a1 a2 h).bind fun v1 =>
  (if v1 = 0 then
    some (1 : Int32)
  else
    (f_X11_in a3 (0 : Int32) (7 : Int32) h).bind fun v3 =>
    if v3 = 0 then
      some (2 : Int32)
    else
      (tq_is h t 11).bind fun _ =>
      (f_X11_takes t a1 h).bind fun v4 =>
      if v4 = 0 then
        some (3 : Int32)
      else
        some (0 : Int32)).bind fun p6 =>
  (tq_is h t 11).bind fun _ =>
  (f_X11_refused t p6 h).bind fun v7 =>
  if v7.1 = 0 then
    (tq_is v7.2 t 11).bind fun _ =>
    (f_X11_collect t (0 : Int32) (-1 : Int32) a1 a2 (0 : Int32) a3 (-1 : Int32) v7.2).bind fun v9 =>
    some (v9.1, v9.2)
  else
    some ((0 : Int32), v7.2)
def f_X11_insertText (t : Nat) (a1 : Int32) (a2 : Int32) (a3 : Int32) (h : tq_H) : Option (Int32 × tq_H) :=
  (tq_is h t 11).bind fun _ =>
  (f_X11_isSpot t a1 a2 h).bind fun v1 =>
  (if v1 = 0 then
    some (1 : Int32)
  else
    (f_X11_in a3 (0 : Int32) (999 : Int32) h).bind fun v3 =>
    if v3 = 0 then
      some (2 : Int32)
    else
      (tq_is h t 11).bind fun _ =>
      (f_X11_takes t a1 h).bind fun v4 =>
      if v4 = 0 then
        some (3 : Int32)
      else
        some (0 : Int32)).bind fun p6 =>
  (tq_is h t 11).bind fun _ =>
  (f_X11_refused t p6 h).bind fun v7 =>
  if v7.1 = 0 then
    (tq_is v7.2 t 11).bind fun _ =>
    (f_X11_collect t (0 : Int32) (-1 : Int32) a1 a2 (1 : Int32) (-1 : Int32) a3 v7.2).bind fun v9 =>
    some (v9.1, v9.2)
  else
    some ((0 : Int32), v7.2)
def f_X11_insertAttribute (t : Nat) (a1 : Int32) (a2 : Int32) (a3 : Int32) (h : tq_H) : Option (Int32 × tq_H) :=
  (f_X11_in a2 (0 : Int32) (7 : Int32) h).bind fun v1 =>
  (if v1 = 0 then
    some (0 : Int32)
  else
    (f_X11_in a3 (0 : Int32) (999 : Int32) h).bind fun v2 =>
    if v2 = 0 then
      some (0 : Int32)
    else
      some (1 : Int32)).bind fun p3 =>
  (tq_is h t 11).bind fun _ =>
  (f_X11_isNode t a1 h).bind fun v4 =>
  (if v4 = 0 then
    some (1 : Int32)
  else
    if p3 = 0 then
      some (2 : Int32)
    else
      (tq_is h t 11).bind fun _ =>
      (f_X11_takes t a1 h).bind fun v6 =>
      if v6 = 0 then
        some (3 : Int32)
      else
        some (0 : Int32)).bind fun p8 =>
  (tq_is h t 11).bind fun _ =>
  (f_X11_refused t p8 h).bind fun v9 =>
  if v9.1 = 0 then
    (tq_is v9.2 t 11).bind fun _ =>
    (f_X11_collect t (0 : Int32) (-1 : Int32) a1 (0 : Int32) (2 : Int32) a2 a3 v9.2).bind fun v11 =>
    some (v11.1, v11.2)
  else
    some ((0 : Int32), v9.2)
def f_X11_remove (t : Nat) (a1 : Int32) (h : tq_H) : Option (Int32 × tq_H) :=
  (tq_is h t 11).bind fun _ =>
  (f_X11_isNode t a1 h).bind fun v1 =>
  (if v1 = 0 then
    some (1 : Int32)
  else
    if a1 = 0 then
      some (2 : Int32)
    else
      (tq_gi h t 11 15).bind fun x3 =>
      if x3 = (20 : Int32) then
        some (2 : Int32)
      else
        some (0 : Int32)).bind fun p4 =>
  (tq_is h t 11).bind fun _ =>
  (f_X11_refused t p4 h).bind fun v5 =>
  if v5.1 = 0 then
    (tq_is v5.2 t 11).bind fun _ =>
    (f_X11_collect t (1 : Int32) a1 (-1 : Int32) (0 : Int32) (0 : Int32) (0 : Int32) (0 : Int32) v5.2).bind fun v7 =>
    some (v7.1, v7.2)
  else
    some ((0 : Int32), v5.2)
def f_X11_rename (t : Nat) (a1 : Int32) (a2 : Int32) (h : tq_H) : Option (Int32 × tq_H) :=
  (tq_is h t 11).bind fun _ =>
  (f_X11_isNode t a1 h).bind fun v1 =>
  (if v1 = 0 then
    some (1 : Int32)
  else
    (f_X11_in a2 (0 : Int32) (7 : Int32) h).bind fun v3 =>
    if v3 = 0 then
      some (2 : Int32)
    else
      (tq_gr h t 11 2).bind fun k4 =>
      (tq_ai h k4 a1).bind fun x5 =>
      if x5 = (1 : Int32) then
        some (3 : Int32)
      else
        (tq_gi h t 11 15).bind fun x6 =>
        if x6 = (20 : Int32) then
          some (3 : Int32)
        else
          some (0 : Int32)).bind fun p7 =>
  (tq_is h t 11).bind fun _ =>
  (f_X11_refused t p7 h).bind fun v8 =>
  if v8.1 = 0 then
    (tq_is v8.2 t 11).bind fun _ =>
    (f_X11_collect t (2 : Int32) a1 (-1 : Int32) (0 : Int32) (0 : Int32) a2 (0 : Int32) v8.2).bind fun v10 =>
    some (v10.1, v10.2)
  else
    some ((0 : Int32), v8.2)
def f_X11_setValue (t : Nat) (a1 : Int32) (a2 : Int32) (h : tq_H) : Option (Int32 × tq_H) :=
  (tq_is h t 11).bind fun _ =>
  (f_X11_isNode t a1 h).bind fun v1 =>
  (if v1 = 0 then
    some (1 : Int32)
  else
    (f_X11_in a2 (0 : Int32) (999 : Int32) h).bind fun v3 =>
    if v3 = 0 then
      some (2 : Int32)
    else
      (tq_gr h t 11 2).bind fun k4 =>
      (tq_ai h k4 a1).bind fun x5 =>
      if x5 = 0 then
        some (3 : Int32)
      else
        (tq_gi h t 11 15).bind fun x6 =>
        if x6 = (20 : Int32) then
          some (3 : Int32)
        else
          some (0 : Int32)).bind fun p7 =>
  (tq_is h t 11).bind fun _ =>
  (f_X11_refused t p7 h).bind fun v8 =>
  if v8.1 = 0 then
    (tq_is v8.2 t 11).bind fun _ =>
    (f_X11_collect t (3 : Int32) a1 (-1 : Int32) (0 : Int32) (0 : Int32) (0 : Int32) a2 v8.2).bind fun v10 =>
    some (v10.1, v10.2)
  else
    some ((0 : Int32), v8.2)
def f_X11_move (t : Nat) (a1 : Int32) (a2 : Int32) (a3 : Int32) (h : tq_H) : Option (Int32 × tq_H) :=
  (tq_is h t 11).bind fun _ =>
  (f_X11_isNode t a1 h).bind fun v1 =>
  (if v1 = 0 then
    some (0 : Int32)
  else
    (tq_is h t 11).bind fun _ =>
    (f_X11_isSpot t a2 a3 h).bind fun v3 =>
    if v3 = 0 then
      some (0 : Int32)
    else
      some (1 : Int32)).bind fun p5 =>
  (if p5 = 0 then
    some (1 : Int32)
  else
    if a1 = 0 then
      some (2 : Int32)
    else
      (tq_gr h t 11 2).bind fun k6 =>
      (tq_ai h k6 a1).bind fun x7 =>
      if x7 = (2 : Int32) then
        some (2 : Int32)
      else
        (tq_is h t 11).bind fun _ =>
        (f_X11_takes t a2 h).bind fun v8 =>
        if v8 = 0 then
          some (2 : Int32)
        else
          some (0 : Int32)).bind fun p10 =>
  (tq_is h t 11).bind fun _ =>
  (f_X11_refused t p10 h).bind fun v11 =>
  if v11.1 = 0 then
    (tq_is v11.2 t 11).bind fun _ =>
    (f_X11_collect t (4 : Int32) a1 a2 a3 (0 : Int32) (0 : Int32) (0 : Int32) v11.2).bind fun v13 =>
    some (v13.1, v13.2)
  else
    some ((0 : Int32), v11.2)
def f_X11_declare (t : Nat) (a1 : Int32) (a2 : Int32) (h : tq_H) : Option (Int32 × tq_H) :=
  (tq_is h t 11).bind fun _ =>
  (f_X11_isNode t a1 h).bind fun v1 =>
  (if v1 = 0 then
    some (1 : Int32)
  else
    (f_X11_in a2 (-1 : Int32) (3 : Int32) h).bind fun v3 =>
    if v3 = 0 then
      some (2 : Int32)
    else
      (tq_gr h t 11 2).bind fun k4 =>
      (tq_ai h k4 a1).bind fun x5 =>
      if x5 = 0 then
        (tq_gi h t 11 15).bind fun x6 =>
        if x6 = (20 : Int32) then
          some (3 : Int32)
        else
          some (0 : Int32)
      else
        some (3 : Int32)).bind fun p7 =>
  (tq_is h t 11).bind fun _ =>
  (f_X11_refused t p7 h).bind fun v8 =>
  if v8.1 = 0 then
    (tq_is v8.2 t 11).bind fun _ =>
    (f_X11_collect t (5 : Int32) a1 (-1 : Int32) (0 : Int32) (0 : Int32) (0 : Int32) a2 v8.2).bind fun v10 =>
    some (v10.1, v10.2)
  else
    some ((0 : Int32), v8.2)
def f_X11_isAtOdds_b14 (i0 : Nat) (i2 : Int32) (hh : tq_H) (s : Int32 × Int32) : Option ((Int32 × Int32) ⊕ (Int32)) := match s with
  | (y1, y3) =>
    (tq_gi hh i0 11 15).bind fun x2 =>
    if y3 ≥ x2 then
      some (.inr y1)
    else
      (if i2 = y3 then
        some (0 : Int32)
      else
        (tq_gr hh i0 11 16).bind fun k3 =>
        (tq_ai hh k3 (((7 : Int32) * i2) + (1 : Int32))).bind fun x4 =>
        (tq_gr hh i0 11 16).bind fun k5 =>
        (tq_ai hh k5 (((7 : Int32) * y3) + (1 : Int32))).bind fun x6 =>
        if x4 = x6 then
          (tq_gr hh i0 11 16).bind fun k7 =>
          (tq_ai hh k7 (((7 : Int32) * i2) + (1 : Int32))).bind fun x8 =>
          if x8 = (-1 : Int32) then
            some (0 : Int32)
          else
            some (1 : Int32)
        else
          some (0 : Int32)).bind fun p9 =>
      (if y1 = 0 then
        if p9 = 0 then
          if p9 = 0 then
            some (0 : Int32)
          else
            (tq_gr hh i0 11 16).bind fun k10 =>
            (tq_ai hh k10 ((7 : Int32) * i2)).bind fun x11 =>
            if x11 = (4 : Int32) then
              (tq_gr hh i0 11 16).bind fun k12 =>
              (tq_ai hh k12 ((7 : Int32) * y3)).bind fun x13 =>
              if x13 = (1 : Int32) then
                some (1 : Int32)
              else
                some (0 : Int32)
            else
              some (0 : Int32)
        else
          (tq_gr hh i0 11 16).bind fun k14 =>
          (tq_ai hh k14 ((7 : Int32) * i2)).bind fun x15 =>
          if x15 < (2 : Int32) then
            if p9 = 0 then
              some (0 : Int32)
            else
              (tq_gr hh i0 11 16).bind fun k16 =>
              (tq_ai hh k16 ((7 : Int32) * i2)).bind fun x17 =>
              if x17 = (4 : Int32) then
                (tq_gr hh i0 11 16).bind fun k18 =>
                (tq_ai hh k18 ((7 : Int32) * y3)).bind fun x19 =>
                if x19 = (1 : Int32) then
                  some (1 : Int32)
                else
                  some (0 : Int32)
              else
                some (0 : Int32)
          else
            (tq_gr hh i0 11 16).bind fun k20 =>
            (tq_ai hh k20 ((7 : Int32) * i2)).bind fun x21 =>
            (tq_gr hh i0 11 16).bind fun k22 =>
            (tq_ai hh k22 ((7 : Int32) * y3)).bind fun x23 =>
            if x21 = x23 then
              some (1 : Int32)
            else
              if p9 = 0 then
                some (0 : Int32)
              else
                (tq_gr hh i0 11 16).bind fun k24 =>
                (tq_ai hh k24 ((7 : Int32) * i2)).bind fun x25 =>
                if x25 = (4 : Int32) then
                  (tq_gr hh i0 11 16).bind fun k26 =>
                  (tq_ai hh k26 ((7 : Int32) * y3)).bind fun x27 =>
                  if x27 = (1 : Int32) then
                    some (1 : Int32)
                  else
                    some (0 : Int32)
                else
                  some (0 : Int32)
      else
        some (1 : Int32)).bind fun p28 =>
      tq_let (y3 + (1 : Int32)) fun x29 =>
      some (.inl (p28, x29))
def f_X11_isAtOdds_b4 (i0 : Nat) (hh : tq_H) (s : Int32 × Int32) : Option ((Int32 × Int32) ⊕ (Int32)) := match s with
  | (y1, y2) =>
    (tq_gi hh i0 11 15).bind fun x1 =>
    if y2 ≥ x1 then
      some (.inr y1)
    else
      (tq_loop (f_X11_isAtOdds_b14 i0 y2 hh) tq_N (y1, (0 : Int32))).bind fun o30 =>
      tq_let (y2 + (1 : Int32)) fun x31 =>
      some (.inl (o30, x31))
def f_X11_isAtOdds (t : Nat) (h : tq_H) : Option (Int32) :=
  (tq_loop (f_X11_isAtOdds_b4 t h) tq_N ((0 : Int32), (0 : Int32))).bind fun o32 =>
  (tq_bz o32).bind fun z33 =>
  some z33
def f_X11_isListed_b5 (i0 : Nat) (i1 : Int32) (i2 : Int32) (hh : tq_H) (s : Int32 × Int32) : Option ((Int32 × Int32) ⊕ (Int32)) := match s with
  | (y3, y4) =>
    (tq_gi hh i0 11 15).bind fun x1 =>
    if y4 ≥ x1 then
      some (.inr y3)
    else
      (if y3 = 0 then
        (tq_gr hh i0 11 16).bind fun k2 =>
        (tq_ai hh k2 ((7 : Int32) * y4)).bind fun x3 =>
        if x3 = i2 then
          (tq_gr hh i0 11 16).bind fun k4 =>
          (tq_ai hh k4 (((7 : Int32) * y4) + (1 : Int32))).bind fun x5 =>
          if x5 = i1 then
            some (1 : Int32)
          else
            some (0 : Int32)
        else
          some (0 : Int32)
      else
        some (1 : Int32)).bind fun p6 =>
      tq_let (y4 + (1 : Int32)) fun x7 =>
      some (.inl (p6, x7))
def f_X11_isListed (t : Nat) (a1 : Int32) (a2 : Int32) (h : tq_H) : Option (Int32) :=
  (tq_loop (f_X11_isListed_b5 t a1 a2 h) tq_N ((0 : Int32), (0 : Int32))).bind fun o8 =>
  (tq_bz o8).bind fun z9 =>
  some z9
def f_X11_remember_b2 (i0 : Nat) (s : Int32 × tq_H) : Option ((Int32 × tq_H) ⊕ (tq_H)) := match s with
  | (y1, hh) =>
    if y1 ≥ (60 : Int32) then
      some (.inr hh)
    else
      (tq_gr hh i0 11 17).bind fun k1 =>
      (tq_gr hh i0 11 3).bind fun k2 =>
      (tq_ai hh k2 y1).bind fun x3 =>
      (tq_si hh k1 y1 x3).bind fun w4 =>
      (tq_gr w4 i0 11 18).bind fun k5 =>
      (tq_gr w4 i0 11 4).bind fun k6 =>
      (tq_ai w4 k6 y1).bind fun x7 =>
      (tq_si w4 k5 y1 x7).bind fun w8 =>
      (tq_gr w8 i0 11 19).bind fun k9 =>
      (tq_gr w8 i0 11 5).bind fun k10 =>
      (tq_ai w8 k10 y1).bind fun x11 =>
      (tq_si w8 k9 y1 x11).bind fun w12 =>
      (tq_gr w12 i0 11 20).bind fun k13 =>
      (tq_gr w12 i0 11 6).bind fun k14 =>
      (tq_ai w12 k14 y1).bind fun x15 =>
      (tq_si w12 k13 y1 x15).bind fun w16 =>
      (tq_gr w16 i0 11 21).bind fun k17 =>
      (tq_gr w16 i0 11 7).bind fun k18 =>
      (tq_ai w16 k18 y1).bind fun x19 =>
      (tq_si w16 k17 y1 x19).bind fun w20 =>
      (tq_gr w20 i0 11 22).bind fun k21 =>
      (tq_gr w20 i0 11 9).bind fun k22 =>
      (tq_az w20 k22 y1).bind fun x23 =>
      (tq_sz w20 k21 y1 x23).bind fun w24 =>
      tq_let (y1 + (1 : Int32)) fun x25 =>
      some (.inl (x25, w24))
def f_X11_remember (t : Nat) (h : tq_H) : Option (tq_H) :=
  (tq_loop (f_X11_remember_b2 t) tq_N ((0 : Int32), h)).bind fun o26 =>
  some o26
def f_X11_comeBack_b2 (i0 : Nat) (s : Int32 × tq_H) : Option ((Int32 × tq_H) ⊕ (tq_H)) := match s with
  | (y1, hh) =>
    if y1 ≥ (60 : Int32) then
      some (.inr hh)
    else
      (tq_gr hh i0 11 3).bind fun k1 =>
      (tq_gr hh i0 11 17).bind fun k2 =>
      (tq_ai hh k2 y1).bind fun x3 =>
      (tq_si hh k1 y1 x3).bind fun w4 =>
      (tq_gr w4 i0 11 4).bind fun k5 =>
      (tq_gr w4 i0 11 18).bind fun k6 =>
      (tq_ai w4 k6 y1).bind fun x7 =>
      (tq_si w4 k5 y1 x7).bind fun w8 =>
      (tq_gr w8 i0 11 5).bind fun k9 =>
      (tq_gr w8 i0 11 19).bind fun k10 =>
      (tq_ai w8 k10 y1).bind fun x11 =>
      (tq_si w8 k9 y1 x11).bind fun w12 =>
      (tq_gr w12 i0 11 6).bind fun k13 =>
      (tq_gr w12 i0 11 20).bind fun k14 =>
      (tq_ai w12 k14 y1).bind fun x15 =>
      (tq_si w12 k13 y1 x15).bind fun w16 =>
      (tq_gr w16 i0 11 7).bind fun k17 =>
      (tq_gr w16 i0 11 21).bind fun k18 =>
      (tq_ai w16 k18 y1).bind fun x19 =>
      (tq_si w16 k17 y1 x19).bind fun w20 =>
      (tq_gr w20 i0 11 9).bind fun k21 =>
      (tq_gr w20 i0 11 22).bind fun k22 =>
      (tq_az w20 k22 y1).bind fun x23 =>
      (tq_sz w20 k21 y1 x23).bind fun w24 =>
      tq_let (y1 + (1 : Int32)) fun x25 =>
      some (.inl (x25, w24))
def f_X11_comeBack (t : Nat) (h : tq_H) : Option (tq_H) :=
  (tq_loop (f_X11_comeBack_b2 t) tq_N ((0 : Int32), h)).bind fun o26 =>
  some o26
def f_X11_nodeOf_b7 (i0 : Nat) (i1 : Int32) (hh : tq_H) (s : Int32 × Int32) : Option ((Int32 × Int32) ⊕ (Int32)) := match s with
  | (y2, y3) =>
    if y3 ≥ i1 then
      some (.inr y2)
    else
      (tq_gr hh i0 11 16).bind fun k2 =>
      (tq_ai hh k2 ((7 : Int32) * y3)).bind fun x3 =>
      tq_let (if x3 = 0 then (1 : Int32) else (0 : Int32)) fun p4 =>
      tq_let ((y2 + p4)) fun x5 =>
      tq_let (y3 + (1 : Int32)) fun x6 =>
      some (.inl (x5, x6))
def f_X11_nodeOf (t : Nat) (a1 : Int32) (h : tq_H) : Option (Int32) :=
  (tq_gi h t 11 1).bind fun x1 =>
  (tq_loop (f_X11_nodeOf_b7 t a1 h) tq_N (x1, (0 : Int32))).bind fun o7 =>
  (tq_gr h t 11 16).bind fun k8 =>
  (tq_ai h k8 ((7 : Int32) * a1)).bind fun x9 =>
  (if x9 = 0 then
    some o7
  else
    (tq_gr h t 11 16).bind fun k10 =>
    (tq_ai h k10 (((7 : Int32) * a1) + (1 : Int32))).bind fun x11 =>
    some x11).bind fun p12 =>
  some p12
def f_X11_layChildren_b14 (i0 : Nat) (i1 : Int32) (i2 : Int32) (i4 : Int32) (s : Int32 × Int32 × tq_H) : Option ((Int32 × Int32 × tq_H) ⊕ (Int32 × tq_H)) := match s with
  | (y3, y5, hh) =>
    (tq_gi hh i0 11 15).bind fun x1 =>
    if y5 ≥ x1 then
      some (.inr (y3, hh))
    else
      (tq_gr hh i0 11 16).bind fun k2 =>
      (tq_ai hh k2 ((7 : Int32) * y5)).bind fun x3 =>
      (if x3 = (4 : Int32) then
        some (1 : Int32)
      else
        (tq_gr hh i0 11 16).bind fun k4 =>
        (tq_ai hh k4 ((7 : Int32) * y5)).bind fun x5 =>
        if x5 = 0 then
          (tq_gr hh i0 11 16).bind fun k6 =>
          (tq_ai hh k6 (((7 : Int32) * y5) + (4 : Int32))).bind fun x7 =>
          if x7 = (2 : Int32) then
            some (0 : Int32)
          else
            some (1 : Int32)
        else
          some (0 : Int32)).bind fun p8 =>
      (if p8 = 0 then
        some (y3, hh)
      else
        (tq_gr hh i0 11 16).bind fun k9 =>
        (tq_ai hh k9 (((7 : Int32) * y5) + (2 : Int32))).bind fun x10 =>
        if x10 = i1 then
          (tq_gr hh i0 11 16).bind fun k11 =>
          (tq_ai hh k11 (((7 : Int32) * y5) + (3 : Int32))).bind fun x12 =>
          if x12 = i4 then
            (tq_is hh i0 11).bind fun _ =>
            (f_X11_nodeOf i0 y5 hh).bind fun v13 =>
            (tq_gr hh i0 11 6).bind fun k15 =>
            (tq_si hh k15 v13 i1).bind fun w16 =>
            (tq_gr w16 i0 11 7).bind fun k17 =>
            (tq_si w16 k17 v13 y3).bind fun w18 =>
            tq_let (y3 + (1 : Int32)) fun x19 =>
            some (x19, w18)
          else
            some (y3, hh)
        else
          some (y3, hh)).bind fun p20 =>
      tq_let (y5 + (1 : Int32)) fun x21 =>
      some (.inl (p20.1, x21, p20.2))
def f_X11_layChildren_b147 (i0 : Nat) (i1 : Int32) (i2 : Int32) (i4 : Int32) (s : Int32 × Int32 × tq_H) : Option ((Int32 × Int32 × tq_H) ⊕ (Int32 × tq_H)) := match s with
  | (y3, y5, hh) =>
    (tq_gi hh i0 11 1).bind fun x23 =>
    if y5 ≥ x23 then
      some (.inr (y3, hh))
    else
      (tq_gr hh i0 11 22).bind fun k24 =>
      (tq_az hh k24 y5).bind fun x25 =>
      (if x25 = 0 then
        some (0 : Int32)
      else
        (tq_gr hh i0 11 20).bind fun k26 =>
        (tq_ai hh k26 y5).bind fun x27 =>
        if x27 = i1 then
          (tq_gr hh i0 11 21).bind fun k28 =>
          (tq_ai hh k28 y5).bind fun x29 =>
          if x29 = i4 then
            (tq_gr hh i0 11 2).bind fun k30 =>
            (tq_ai hh k30 y5).bind fun x31 =>
            if x31 = (2 : Int32) then
              some (0 : Int32)
            else
              some (1 : Int32)
          else
            some (0 : Int32)
        else
          some (0 : Int32)).bind fun p32 =>
      (if p32 = 0 then
        some (y3, hh)
      else
        (tq_is hh i0 11).bind fun _ =>
        (f_X11_isListed i0 y5 (1 : Int32) hh).bind fun v33 =>
        if v33 = 0 then
          (tq_is hh i0 11).bind fun _ =>
          (f_X11_isListed i0 y5 (4 : Int32) hh).bind fun v35 =>
          if v35 = 0 then
            (tq_gr hh i0 11 7).bind fun k37 =>
            (tq_si hh k37 y5 y3).bind fun w38 =>
            tq_let (y3 + (1 : Int32)) fun x39 =>
            some (x39, w38)
          else
            some (y3, hh)
        else
          some (y3, hh)).bind fun p40 =>
      tq_let (y5 + (1 : Int32)) fun x41 =>
      some (.inl (p40.1, x41, p40.2))
def f_X11_layChildren_b5 (i0 : Nat) (i1 : Int32) (i2 : Int32) (s : Int32 × Int32 × tq_H) : Option ((Int32 × Int32 × tq_H) ⊕ (tq_H)) := match s with
  | (y3, y4, hh) =>
    if y4 > i2 then
      some (.inr hh)
    else
      (tq_loop (f_X11_layChildren_b14 i0 i1 i2 y4) tq_N (y3, (0 : Int32), hh)).bind fun o22 =>
      (tq_loop (f_X11_layChildren_b147 i0 i1 i2 y4) tq_N (o22.1, (0 : Int32), o22.2)).bind fun o42 =>
      tq_let (y4 + (1 : Int32)) fun x43 =>
      some (.inl (o42.1, x43, o42.2))
def f_X11_layChildren (t : Nat) (a1 : Int32) (a2 : Int32) (h : tq_H) : Option (tq_H) :=
  (tq_loop (f_X11_layChildren_b5 t a1 a2) tq_N ((0 : Int32), (0 : Int32), h)).bind fun o44 =>
  some o44
def f_X11_hangs_b4 (i0 : Nat) (hh : tq_H) (s : Int32 × Int32) : Option ((Int32 × Int32) ⊕ (Int32)) := match s with
  | (y2, y3) =>
    if y3 > (60 : Int32) then
      some (.inr y2)
    else
      if y2 ≤ 0 then
        some (.inr y2)
      else
        (tq_gr hh i0 11 6).bind fun k1 =>
        (tq_ai hh k1 y2).bind fun x2 =>
        tq_let (y3 + (1 : Int32)) fun x3 =>
        some (.inl (x2, x3))
def f_X11_hangs (t : Nat) (a1 : Int32) (h : tq_H) : Option (Int32) :=
  (tq_loop (f_X11_hangs_b4 t h) tq_N (a1, (0 : Int32))).bind fun o4 =>
  tq_let (if o4 = 0 then (1 : Int32) else (0 : Int32)) fun p5 =>
  (tq_bz p5).bind fun z6 =>
  some z6
def f_X11_goesRound_b9 (i0 : Nat) (i1 : Int32) (hh : tq_H) (s : Int32 × Int32) : Option ((Int32 × Int32) ⊕ (Int32)) := match s with
  | (y2, y3) =>
    if y3 ≥ (60 : Int32) then
      some (.inr y2)
    else
      if y2 = (-1 : Int32) then
        some (.inr y2)
      else
        if y2 = i1 then
          some (.inr y2)
        else
          (tq_gr hh i0 11 6).bind fun k3 =>
          (tq_ai hh k3 y2).bind fun x4 =>
          tq_let (y3 + (1 : Int32)) fun x5 =>
          some (.inl (x4, x5))
def f_X11_goesRound (t : Nat) (a1 : Int32) (h : tq_H) : Option (Int32) :=
  (tq_gr h t 11 6).bind fun k1 =>
  (tq_ai h k1 a1).bind fun x2 =>
  (tq_loop (f_X11_goesRound_b9 t a1 h) tq_N (x2, (0 : Int32))).bind fun o6 =>
  tq_let (if o6 = a1 then (1 : Int32) else (0 : Int32)) fun p7 =>
  (tq_bz p7).bind fun z8 =>
  some z8
def f_X11_hasTwice_b14 (i0 : Nat) (i2 : Int32) (hh : tq_H) (s : Int32 × Int32) : Option ((Int32 × Int32) ⊕ (Int32)) := match s with
  | (y1, y3) =>
    if y3 ≥ i2 then
      some (.inr y1)
    else
      (tq_gr hh i0 11 9).bind fun k2 =>
      (tq_az hh k2 i2).bind fun x3 =>
      (if x3 = 0 then
        some (0 : Int32)
      else
        (tq_gr hh i0 11 9).bind fun k4 =>
        (tq_az hh k4 y3).bind fun x5 =>
        if x5 = 0 then
          some (0 : Int32)
        else
          (tq_gr hh i0 11 2).bind fun k6 =>
          (tq_ai hh k6 i2).bind fun x7 =>
          if x7 = (2 : Int32) then
            (tq_gr hh i0 11 2).bind fun k8 =>
            (tq_ai hh k8 y3).bind fun x9 =>
            if x9 = (2 : Int32) then
              some (1 : Int32)
            else
              some (0 : Int32)
          else
            some (0 : Int32)).bind fun p10 =>
      (if y1 = 0 then
        if p10 = 0 then
          some (0 : Int32)
        else
          (tq_gr hh i0 11 6).bind fun k11 =>
          (tq_ai hh k11 i2).bind fun x12 =>
          (tq_gr hh i0 11 6).bind fun k13 =>
          (tq_ai hh k13 y3).bind fun x14 =>
          if x12 = x14 then
            (tq_gr hh i0 11 3).bind fun k15 =>
            (tq_ai hh k15 i2).bind fun x16 =>
            (tq_gr hh i0 11 3).bind fun k17 =>
            (tq_ai hh k17 y3).bind fun x18 =>
            if x16 = x18 then
              some (1 : Int32)
            else
              some (0 : Int32)
          else
            some (0 : Int32)
      else
        some (1 : Int32)).bind fun p19 =>
      tq_let (y3 + (1 : Int32)) fun x20 =>
      some (.inl (p19, x20))
def f_X11_hasTwice_b4 (i0 : Nat) (hh : tq_H) (s : Int32 × Int32) : Option ((Int32 × Int32) ⊕ (Int32)) := match s with
  | (y1, y2) =>
    (tq_gi hh i0 11 1).bind fun x1 =>
    if y2 ≥ x1 then
      some (.inr y1)
    else
      (tq_loop (f_X11_hasTwice_b14 i0 y2 hh) tq_N (y1, (0 : Int32))).bind fun o21 =>
      tq_let (y2 + (1 : Int32)) fun x22 =>
      some (.inl (o21, x22))
def f_X11_hasTwice (t : Nat) (h : tq_H) : Option (Int32) :=
  (tq_loop (f_X11_hasTwice_b4 t h) tq_N ((0 : Int32), (0 : Int32))).bind fun o23 =>
  (tq_bz o23).bind fun z24 =>
  some z24
def f_X11_madeBehind_b7 (i0 : Nat) (hh : tq_H) (s : Int32 × Int32) : Option ((Int32 × Int32) ⊕ (Int32)) := match s with
  | (y1, y2) =>
    (tq_gi hh i0 11 15).bind fun x2 =>
    if y2 ≥ x2 then
      some (.inr y1)
    else
      (tq_gr hh i0 11 16).bind fun k3 =>
      (tq_ai hh k3 ((7 : Int32) * y2)).bind fun x4 =>
      tq_let (if x4 = 0 then (1 : Int32) else (0 : Int32)) fun p5 =>
      tq_let ((y1 + p5)) fun x6 =>
      tq_let (y2 + (1 : Int32)) fun x7 =>
      some (.inl (x6, x7))
def f_X11_madeBehind (t : Nat) (h : tq_H) : Option (Int32) :=
  (tq_gi h t 11 1).bind fun x1 =>
  (tq_loop (f_X11_madeBehind_b7 t h) tq_N (x1, (0 : Int32))).bind fun o8 =>
  some o8
def f_X11_countBack_b4 (i0 : Nat) (i1 : Int32) (hh : tq_H) (s : Int32 × Int32) : Option ((Int32 × Int32) ⊕ (Int32)) := match s with
  | (y2, y3) =>
    if y3 ≥ (60 : Int32) then
      some (.inr y2)
    else
      (tq_gr hh i0 11 22).bind fun k1 =>
      (tq_az hh k1 y3).bind fun x2 =>
      (if x2 = 0 then
        some (0 : Int32)
      else
        (tq_gr hh i0 11 20).bind fun k3 =>
        (tq_ai hh k3 y3).bind fun x4 =>
        if x4 = i1 then
          (tq_gr hh i0 11 2).bind fun k5 =>
          (tq_ai hh k5 y3).bind fun x6 =>
          if x6 = (2 : Int32) then
            some (0 : Int32)
          else
            some (1 : Int32)
        else
          some (0 : Int32)).bind fun p7 =>
      tq_let ((y2 + p7)) fun x8 =>
      tq_let (y3 + (1 : Int32)) fun x9 =>
      some (.inl (x8, x9))
def f_X11_countBack (t : Nat) (a1 : Int32) (h : tq_H) : Option (Int32) :=
  (tq_loop (f_X11_countBack_b4 t a1 h) tq_N ((0 : Int32), (0 : Int32))).bind fun o10 =>
  some o10
def f_X11_perform_b7 (i0 : Nat) (i1 : Int32) (s : Int32 × tq_H) : Option ((Int32 × tq_H) ⊕ (tq_H)) := match s with
  | (y2, hh) =>
    (tq_gi hh i0 11 15).bind fun x2 =>
    if y2 ≥ x2 then
      some (.inr hh)
    else
      tq_let (((7 : Int32) * y2)) fun x3 =>
      (tq_gr hh i0 11 16).bind fun k4 =>
      (tq_ai hh k4 x3).bind fun x5 =>
      (if x5 = 0 then
        (tq_gr hh i0 11 2).bind fun k30 =>
        (tq_gi hh i0 11 1).bind fun x31 =>
        (tq_gr hh i0 11 16).bind fun k32 =>
        (tq_ai hh k32 (x3 + (4 : Int32))).bind fun x33 =>
        (tq_si hh k30 x31 x33).bind fun w34 =>
        (tq_gr w34 i0 11 3).bind fun k35 =>
        (tq_gi w34 i0 11 1).bind fun x36 =>
        (tq_gr w34 i0 11 16).bind fun k37 =>
        (tq_ai w34 k37 (x3 + (5 : Int32))).bind fun x38 =>
        (tq_si w34 k35 x36 x38).bind fun w39 =>
        (tq_gr w39 i0 11 4).bind fun k40 =>
        (tq_gi w39 i0 11 1).bind fun x41 =>
        (tq_gr w39 i0 11 16).bind fun k42 =>
        (tq_ai w39 k42 (x3 + (6 : Int32))).bind fun x43 =>
        (tq_si w39 k40 x41 x43).bind fun w44 =>
        (tq_gr w44 i0 11 5).bind fun k45 =>
        (tq_gi w44 i0 11 1).bind fun x46 =>
        (tq_si w44 k45 x46 (-1 : Int32)).bind fun w47 =>
        (tq_gr w47 i0 11 6).bind fun k48 =>
        (tq_gi w47 i0 11 1).bind fun x49 =>
        (tq_gr w47 i0 11 16).bind fun k50 =>
        (tq_ai w47 k50 (x3 + (2 : Int32))).bind fun x51 =>
        (tq_si w47 k48 x49 x51).bind fun w52 =>
        (tq_gr w52 i0 11 7).bind fun k53 =>
        (tq_gi w52 i0 11 1).bind fun x54 =>
        (tq_si w52 k53 x54 (0 : Int32)).bind fun w55 =>
        (tq_gr w55 i0 11 9).bind fun k56 =>
        (tq_gi w55 i0 11 1).bind fun x57 =>
        (tq_sz w55 k56 x57 (0 : Int32)).bind fun w58 =>
        (tq_gr w58 i0 11 22).bind fun k59 =>
        (tq_gi w58 i0 11 1).bind fun x60 =>
        (tq_sz w58 k59 x60 (0 : Int32)).bind fun w61 =>
        (tq_gi w61 i0 11 1).bind fun x62 =>
        (tq_pf w61 i0 11 1 (.int ((x62 + (1 : Int32))))).bind fun w63 =>
        some w63
      else
        (tq_gr hh i0 11 16).bind fun k6 =>
        (tq_ai hh k6 x3).bind fun x7 =>
        if x7 = (2 : Int32) then
          (tq_gr hh i0 11 3).bind fun k24 =>
          (tq_gr hh i0 11 16).bind fun k25 =>
          (tq_ai hh k25 (x3 + (1 : Int32))).bind fun x26 =>
          (tq_gr hh i0 11 16).bind fun k27 =>
          (tq_ai hh k27 (x3 + (5 : Int32))).bind fun x28 =>
          (tq_si hh k24 x26 x28).bind fun w29 =>
          some w29
        else
          (tq_gr hh i0 11 16).bind fun k8 =>
          (tq_ai hh k8 x3).bind fun x9 =>
          if x9 = (3 : Int32) then
            (tq_gr hh i0 11 4).bind fun k18 =>
            (tq_gr hh i0 11 16).bind fun k19 =>
            (tq_ai hh k19 (x3 + (1 : Int32))).bind fun x20 =>
            (tq_gr hh i0 11 16).bind fun k21 =>
            (tq_ai hh k21 (x3 + (6 : Int32))).bind fun x22 =>
            (tq_si hh k18 x20 x22).bind fun w23 =>
            some w23
          else
            (tq_gr hh i0 11 16).bind fun k10 =>
            (tq_ai hh k10 x3).bind fun x11 =>
            if x11 = (5 : Int32) then
              (tq_gr hh i0 11 5).bind fun k12 =>
              (tq_gr hh i0 11 16).bind fun k13 =>
              (tq_ai hh k13 (x3 + (1 : Int32))).bind fun x14 =>
              (tq_gr hh i0 11 16).bind fun k15 =>
              (tq_ai hh k15 (x3 + (6 : Int32))).bind fun x16 =>
              (tq_si hh k12 x14 x16).bind fun w17 =>
              some w17
            else
              some hh).bind fun p64 =>
      tq_let (y2 + (1 : Int32)) fun x65 =>
      some (.inl (x65, p64))
def f_X11_perform_b270 (i0 : Nat) (i1 : Int32) (i2 : Int32) (s : Int32 × tq_H) : Option ((Int32 × tq_H) ⊕ (tq_H)) := match s with
  | (y3, hh) =>
    if y3 ≥ i1 then
      some (.inr hh)
    else
      (tq_gr hh i0 11 22).bind fun k69 =>
      (tq_az hh k69 y3).bind fun x70 =>
      (if x70 = 0 then
        some hh
      else
        (tq_gr hh i0 11 2).bind fun k71 =>
        (tq_ai hh k71 y3).bind fun x72 =>
        if x72 = 0 then
          (tq_is hh i0 11).bind fun _ =>
          (f_X11_countBack i0 y3 hh).bind fun v73 =>
          (tq_is hh i0 11).bind fun _ =>
          (f_X11_layChildren i0 y3 v73 hh).bind fun v75 =>
          some v75
        else
          some hh).bind fun p77 =>
      tq_let (y3 + (1 : Int32)) fun x78 =>
      some (.inl (x78, p77))
def f_X11_perform_b316 (i0 : Nat) (s : Int32 × tq_H) : Option ((Int32 × tq_H) ⊕ (tq_H)) := match s with
  | (y3, hh) =>
    (tq_gi hh i0 11 15).bind fun x81 =>
    if y3 ≥ x81 then
      some (.inr hh)
    else
      (tq_gr hh i0 11 16).bind fun k82 =>
      (tq_ai hh k82 ((7 : Int32) * y3)).bind fun x83 =>
      (if x83 = (1 : Int32) then
        (tq_gr hh i0 11 9).bind fun k84 =>
        (tq_gr hh i0 11 16).bind fun k85 =>
        (tq_ai hh k85 (((7 : Int32) * y3) + (1 : Int32))).bind fun x86 =>
        (tq_sz hh k84 x86 (0 : Int32)).bind fun w87 =>
        (tq_gr w87 i0 11 6).bind fun k88 =>
        (tq_gr w87 i0 11 16).bind fun k89 =>
        (tq_ai w87 k89 (((7 : Int32) * y3) + (1 : Int32))).bind fun x90 =>
        (tq_si w87 k88 x90 (-1 : Int32)).bind fun w91 =>
        some w91
      else
        some hh).bind fun p92 =>
      tq_let (y3 + (1 : Int32)) fun x93 =>
      some (.inl (x93, p92))
def f_X11_perform (t : Nat) (h : tq_H) : Option (tq_H) :=
  (tq_gi h t 11 1).bind fun x1 =>
  (tq_loop (f_X11_perform_b7 t x1) tq_N ((0 : Int32), h)).bind fun o66 =>
  (tq_gi o66 t 11 1).bind fun x67 =>
  (tq_pf o66 t 11 1 (.int x1)).bind fun w68 =>
  (tq_loop (f_X11_perform_b270 t x1 x67) tq_N ((0 : Int32), w68)).bind fun o79 =>
  (tq_pf o79 t 11 1 (.int x67)).bind fun w80 =>
  (tq_loop (f_X11_perform_b316 t) tq_N ((0 : Int32), w80)).bind fun o94 =>
  some o94
def f_X11_isSound_b4 (i0 : Nat) (i1 : Int32) (hh : tq_H) (s : Int32 × Int32) : Option ((Int32 × Int32) ⊕ (Int32)) := match s with
  | (y2, y3) =>
    if y3 ≥ i1 then
      some (.inr y2)
    else
      (if y2 = 0 then
        some (0 : Int32)
      else
        (tq_gr hh i0 11 22).bind fun k1 =>
        (tq_az hh k1 y3).bind fun x2 =>
        if x2 = 0 then
          some (1 : Int32)
        else
          (tq_is hh i0 11).bind fun _ =>
          (f_X11_goesRound i0 y3 hh).bind fun v3 =>
          if v3 = 0 then
            some (1 : Int32)
          else
            some (0 : Int32)).bind fun p5 =>
      tq_let (y3 + (1 : Int32)) fun x6 =>
      some (.inl (p5, x6))
def f_X11_isSound (t : Nat) (a1 : Int32) (h : tq_H) : Option (Int32) :=
  (tq_loop (f_X11_isSound_b4 t a1 h) tq_N ((1 : Int32), (0 : Int32))).bind fun o7 =>
  (tq_bz o7).bind fun z8 =>
  some z8
def f_X11_isOf_b24 (i0 : Nat) (i1 : Int32) (i2 : Int32) (hh : tq_H) (s : Int32 × Int32) : Option ((Int32 × Int32) ⊕ (Int32)) := match s with
  | (y3, y4) =>
    if y4 ≥ (8 : Int32) then
      some (.inr y3)
    else
      (tq_is hh i0 11).bind fun _ =>
      (f_X11_attributeOf i0 i1 y4 hh).bind fun v6 =>
      tq_let (if v6 = (-1 : Int32) then (0 : Int32) else (1 : Int32)) fun p8 =>
      (tq_gr hh i0 11 38).bind fun k9 =>
      (tq_ai hh k9 (((8 : Int32) * i2) + y4)).bind fun x10 =>
      tq_let (if y3 = 0 then (0 : Int32) else (if p8 = 0 then if x10 = (2 : Int32) then (0 : Int32) else (1 : Int32) else if x10 = 0 then (0 : Int32) else (1 : Int32))) fun p11 =>
      tq_let (y4 + (1 : Int32)) fun x12 =>
      some (.inl (p11, x12))
def f_X11_isOf_b158 (i0 : Nat) (i1 : Int32) (i2 : Int32) (i3 : Int32) (i4 : Int32) (i5 : Int32) (i6 : Int32) (i7 : Int32) (hh : tq_H) (s : Int32 × Int32) : Option ((Int32 × Int32) ⊕ (Int32)) := match s with
  | (y8, y9) =>
    if y9 ≥ (24 : Int32) then
      some (.inr y8)
    else
      (if ((i4 >>> ((y9 / (6 : Int32)) &&& 31)) &&& (1 : Int32)) = (1 : Int32) then
        (tq_gr hh i0 11 41).bind fun k20 =>
        (tq_ai hh k20 i7).bind fun x21 =>
        if ((x21 >>> ((y9 - y9 / (6 : Int32) * (6 : Int32)) &&& 31)) &&& (1 : Int32)) = (1 : Int32) then
          some (1 : Int32)
        else
          some (0 : Int32)
      else
        some (0 : Int32)).bind fun p22 =>
      (if p22 = 0 then
        some (0 : Int32)
      else
        (tq_gr hh i0 11 40).bind fun k23 =>
        (tq_ai hh k23 (((24 : Int32) * i2) + y9)).bind fun x24 =>
        some x24).bind fun p25 =>
      tq_let ((y8 ||| p25)) fun x26 =>
      tq_let (y9 + (1 : Int32)) fun x27 =>
      some (.inl (x26, x27))
def f_X11_isOf_b111 (i0 : Nat) (i1 : Int32) (i2 : Int32) (i5 : Int32) (hh : tq_H) (s : Int32 × Int32 × Int32) : Option ((Int32 × Int32 × Int32) ⊕ (Int32 × Int32)) := match s with
  | (y3, y4, y6) =>
    if y6 ≥ i5 then
      some (.inr (y3, y4))
    else
      if y3 = 0 then
        some (.inr (y3, y4))
      else
        (tq_is hh i0 11).bind fun _ =>
        (f_X11_childAt i0 i1 y6 hh).bind fun v16 =>
        (tq_gr hh i0 11 2).bind fun k18 =>
        (tq_ai hh k18 v16).bind fun x19 =>
        (if x19 = (1 : Int32) then
          (tq_gr hh i0 11 37).bind fun k29 =>
          (tq_az hh k29 i2).bind fun x30 =>
          some (x30, y4)
        else
          (tq_loop (f_X11_isOf_b158 i0 i1 i2 y3 y4 i5 y6 v16 hh) tq_N ((0 : Int32), (0 : Int32))).bind fun o28 =>
          some (y3, o28)).bind fun p31 =>
        tq_let (y6 + (1 : Int32)) fun x32 =>
        some (.inl (p31.1, p31.2, x32))
def f_X11_isOf (t : Nat) (a1 : Int32) (a2 : Int32) (h : tq_H) : Option (Int32) :=
  (tq_gr h t 11 36).bind fun k1 =>
  (tq_ai h k1 a2).bind fun x2 =>
  (tq_gr h t 11 3).bind fun k3 =>
  (tq_ai h k3 a1).bind fun x4 =>
  tq_let (if x2 = x4 then (1 : Int32) else (0 : Int32)) fun p5 =>
  (tq_loop (f_X11_isOf_b24 t a1 a2 h) tq_N (p5, (0 : Int32))).bind fun o13 =>
  (tq_is h t 11).bind fun _ =>
  (f_X11_childCount t a1 h).bind fun v14 =>
  (tq_loop (f_X11_isOf_b111 t a1 a2 v14 h) tq_N (o13, (1 : Int32), (0 : Int32))).bind fun o33 =>
  (if o33.1 = 0 then
    some (0 : Int32)
  else
    (tq_gr h t 11 39).bind fun k34 =>
    (tq_ai h k34 a2).bind fun x35 =>
    if (o33.2 &&& x35) = 0 then
      some (0 : Int32)
    else
      some (1 : Int32)).bind fun p36 =>
  (tq_bz p36).bind fun z37 =>
  some z37
def f_X11_findTypes_b27 (i0 : Nat) (i1 : Int32) (i2 : Int32) (s : Int32 × tq_H) : Option ((Int32 × tq_H) ⊕ (tq_H)) := match s with
  | (y3, hh) =>
    if y3 ≥ (6 : Int32) then
      some (.inr hh)
    else
      (tq_gr hh i0 11 2).bind fun k7 =>
      (tq_ai hh k7 i2).bind fun x8 =>
      if x8 = 0 then
        (tq_gr hh i0 11 41).bind fun k9 =>
        (tq_ai hh k9 i2).bind fun x10 =>
        (tq_is hh i0 11).bind fun _ =>
        (f_X11_isOf i0 i2 y3 hh).bind fun v11 =>
        tq_let (if v11 = 0 then (0 : Int32) else ((1 : Int32) <<< (y3 &&& 31))) fun p13 =>
        (tq_si hh k9 i2 (x10 ||| p13)).bind fun w14 =>
        tq_let (y3 + (1 : Int32)) fun x15 =>
        some (.inl (x15, w14))
      else
        some (.inr hh)
def f_X11_findTypes_b7 (i0 : Nat) (s : Int32 × tq_H) : Option ((Int32 × tq_H) ⊕ (tq_H)) := match s with
  | (y1, hh) =>
    if y1 < 0 then
      some (.inr hh)
    else
      (tq_gr hh i0 11 12).bind fun k3 =>
      (tq_ai hh k3 y1).bind fun x4 =>
      (tq_gr hh i0 11 41).bind fun k5 =>
      (tq_si hh k5 x4 (0 : Int32)).bind fun w6 =>
      (tq_loop (f_X11_findTypes_b27 i0 y1 x4) tq_N ((0 : Int32), w6)).bind fun o16 =>
      tq_let (y1 + (-1 : Int32)) fun x17 =>
      some (.inl (x17, o16))
def f_X11_findTypes (t : Nat) (h : tq_H) : Option (tq_H) :=
  (tq_gi h t 11 11).bind fun x1 =>
  tq_let ((x1 - (1 : Int32))) fun x2 =>
  (tq_loop (f_X11_findTypes_b7 t) tq_N (x2, h)).bind fun o18 =>
  some o18
def f_X11_isRight (t : Nat) (h : tq_H) : Option (Int32 × tq_H) :=
  (tq_is h t 11).bind fun _ =>
  (f_X11_findTypes t h).bind fun v1 =>
  (tq_gr v1 t 11 41).bind fun k3 =>
  (tq_ai v1 k3 (0 : Int32)).bind fun x4 =>
  tq_let (if (x4 &&& (1 : Int32)) = (1 : Int32) then (1 : Int32) else (0 : Int32)) fun p5 =>
  (tq_bz p5).bind fun z6 =>
  some (z6, v1)
def f_X11_markNew_b44 (i0 : Nat) (i2 : Int64) (i4 : Int32) (hh : tq_H) (s : Int32 × Int32) : Option ((Int32 × Int32) ⊕ (Int32)) := match s with
  | (y5, y6) =>
    if y6 = (-1 : Int32) then
      some (.inr y5)
    else
      (tq_gr hh i0 11 9).bind fun k5 =>
      (tq_az hh k5 i4).bind fun x6 =>
      if x6 = 0 then
        some (.inr y5)
      else
        (if y5 = 0 then
          (tq_is hh i0 11).bind fun _ =>
          (f_X11_isListed i0 y6 (4 : Int32) hh).bind fun v7 =>
          if v7 = 0 then
            some (0 : Int32)
          else
            some (1 : Int32)
        else
          some (1 : Int32)).bind fun p9 =>
        (tq_gr hh i0 11 6).bind fun k10 =>
        (tq_ai hh k10 y6).bind fun x11 =>
        some (.inl (p9, x11))
def f_X11_markNew_b3 (i0 : Nat) (i2 : Int64) (s : Int32 × tq_H) : Option ((Int32 × tq_H) ⊕ (tq_H)) := match s with
  | (y4, hh) =>
    (tq_gi hh i0 11 1).bind fun x1 =>
    if y4 ≥ x1 then
      some (.inr hh)
    else
      (tq_gr hh i0 11 9).bind fun k2 =>
      (tq_az hh k2 y4).bind fun x3 =>
      tq_let (if x3 = 0 then (0 : Int32) else (if (lg_cmp ((i2 >>> (y4.toInt64 &&& 63)) &&& (1 : Int64)) (0 : Int64)) = 0 then (1 : Int32) else (0 : Int32))) fun p4 =>
      (tq_loop (f_X11_markNew_b44 i0 i2 y4 hh) tq_N (p4, y4)).bind fun o12 =>
      (tq_gr hh i0 11 23).bind fun k13 =>
      (tq_sz hh k13 y4 o12).bind fun w14 =>
      tq_let (y4 + (1 : Int32)) fun x15 =>
      some (.inl (x15, w14))
def f_X11_markNew (t : Nat) (a1 : Int32) (a2 : Int64) (h : tq_H) : Option (tq_H) :=
  (tq_loop (f_X11_markNew_b3 t a2) tq_N ((0 : Int32), h)).bind fun o16 =>
  some o16
def f_X11_numberRow_b4 (i0 : Nat) (i1 : Int32) (hh : tq_H) (s : Int32 × Int32) : Option ((Int32 × Int32) ⊕ (Int32)) := match s with
  | (y2, y3) =>
    if y3 ≥ i1 then
      some (.inr y2)
    else
      (tq_gr hh i0 11 2).bind fun k1 =>
      (tq_gr hh i0 11 12).bind fun k2 =>
      (tq_ai hh k2 y3).bind fun x3 =>
      (tq_ai hh k1 x3).bind fun x4 =>
      (if x4 = (2 : Int32) then
        some y2
      else
        (tq_gr hh i0 11 8).bind fun k5 =>
        (tq_gr hh i0 11 12).bind fun k6 =>
        (tq_ai hh k6 y3).bind fun x7 =>
        (tq_ai hh k5 x7).bind fun x8 =>
        some x8).bind fun p9 =>
      tq_let (y3 + (1 : Int32)) fun x10 =>
      some (.inl (p9, x10))
def f_X11_numberRow_b51 (i0 : Nat) (i1 : Int32) (i2 : Int32) (hh : tq_H) (s : Int32 × Int32) : Option ((Int32 × Int32) ⊕ (Int32 × Int32)) := match s with
  | (y3, y4) =>
    (tq_gi hh i0 11 11).bind fun x12 =>
    if y4 ≥ x12 then
      some (.inr (y3, y4))
    else
      (tq_gr hh i0 11 2).bind fun k13 =>
      (tq_gr hh i0 11 12).bind fun k14 =>
      (tq_ai hh k14 y4).bind fun x15 =>
      (tq_ai hh k13 x15).bind fun x16 =>
      if x16 = (2 : Int32) then
        (tq_gr hh i0 11 2).bind fun k17 =>
        (tq_gr hh i0 11 12).bind fun k18 =>
        (tq_ai hh k18 y4).bind fun x19 =>
        (tq_ai hh k17 x19).bind fun x20 =>
        tq_let (if x20 = (2 : Int32) then (0 : Int32) else (1 : Int32)) fun p21 =>
        tq_let ((y3 + p21)) fun x22 =>
        tq_let (y4 + (1 : Int32)) fun x23 =>
        some (.inl (x22, x23))
      else
        (tq_gr hh i0 11 23).bind fun k24 =>
        (tq_gr hh i0 11 12).bind fun k25 =>
        (tq_ai hh k25 y4).bind fun x26 =>
        (tq_az hh k24 x26).bind fun x27 =>
        if x27 = 0 then
          some (.inr (y3, y4))
        else
          (tq_gr hh i0 11 2).bind fun k28 =>
          (tq_gr hh i0 11 12).bind fun k29 =>
          (tq_ai hh k29 y4).bind fun x30 =>
          (tq_ai hh k28 x30).bind fun x31 =>
          tq_let (if x31 = (2 : Int32) then (0 : Int32) else (1 : Int32)) fun p32 =>
          tq_let ((y3 + p32)) fun x33 =>
          tq_let (y4 + (1 : Int32)) fun x34 =>
          some (.inl (x33, x34))
def f_X11_numberRow_b156 (i0 : Nat) (i2 : Int32) (i3 : Int32) (i4 : Int32) (i5 : Int32) (s : Int32 × Int32 × tq_H) : Option ((Int32 × Int32 × tq_H) ⊕ (tq_H)) := match s with
  | (y6, y7, hh) =>
    if y7 ≥ i4 then
      some (.inr hh)
    else
      (tq_gr hh i0 11 2).bind fun k42 =>
      (tq_gr hh i0 11 12).bind fun k43 =>
      (tq_ai hh k43 y7).bind fun x44 =>
      (tq_ai hh k42 x44).bind fun x45 =>
      (if x45 = (2 : Int32) then
        some (y6, hh)
      else
        tq_let (y6 + (1 : Int32)) fun x46 =>
        (tq_gr hh i0 11 8).bind fun k47 =>
        (tq_gr hh i0 11 12).bind fun k48 =>
        (tq_ai hh k48 y7).bind fun x49 =>
        (tq_gi hh i0 11 11).bind fun x50 =>
        (if i4 ≥ x50 then
          some (i2 + ((16 : Int32) * x46))
        else
          (tq_nz (i3 + (1 : Int32))).bind fun _ =>
          some (i2 + ((x46 * i5) / (i3 + (1 : Int32))))).bind fun p52 =>
        (tq_si hh k47 x49 p52).bind fun w53 =>
        some (x46, w53)).bind fun p54 =>
      tq_let (y7 + (1 : Int32)) fun x55 =>
      some (.inl (p54.1, x55, p54.2))
def f_X11_numberRow (t : Nat) (a1 : Int32) (h : tq_H) : Option (Int32 × tq_H) :=
  (tq_loop (f_X11_numberRow_b4 t a1 h) tq_N ((0 : Int32), (0 : Int32))).bind fun o11 =>
  (tq_loop (f_X11_numberRow_b51 t a1 o11 h) tq_N ((0 : Int32), a1)).bind fun o35 =>
  (tq_gi h t 11 11).bind fun x36 =>
  (if o35.2 ≥ x36 then
    some (0 : Int32)
  else
    (tq_gr h t 11 8).bind fun k37 =>
    (tq_gr h t 11 12).bind fun k38 =>
    (tq_ai h k38 o35.2).bind fun x39 =>
    (tq_ai h k37 x39).bind fun x40 =>
    some (x40 - o11)).bind fun p41 =>
  (tq_loop (f_X11_numberRow_b156 t o11 o35.1 o35.2 p41) tq_N ((0 : Int32), a1, h)).bind fun o56 =>
  (tq_gi o56 t 11 11).bind fun x57 =>
  tq_let (if o35.2 ≥ x57 then o35.2 else (if p41 > o35.1 then o35.2 else (-o35.2))) fun p58 =>
  some (p58, o56)
def f_X11_numberAll_b4 (i0 : Nat) (s : Int32 × Int32 × tq_H) : Option ((Int32 × Int32 × tq_H) ⊕ (tq_H)) := match s with
  | (y1, y2, hh) =>
    (tq_gi hh i0 11 11).bind fun x1 =>
    if y2 ≥ x1 then
      some (.inr hh)
    else
      (tq_gr hh i0 11 2).bind fun k2 =>
      (tq_gr hh i0 11 12).bind fun k3 =>
      (tq_ai hh k3 y2).bind fun x4 =>
      (tq_ai hh k2 x4).bind fun x5 =>
      (if x5 = (2 : Int32) then
        some (y1, hh)
      else
        tq_let (y1 + (16 : Int32)) fun x6 =>
        (tq_gr hh i0 11 8).bind fun k7 =>
        (tq_gr hh i0 11 12).bind fun k8 =>
        (tq_ai hh k8 y2).bind fun x9 =>
        (tq_si hh k7 x9 x6).bind fun w10 =>
        some (x6, w10)).bind fun p11 =>
      tq_let (y2 + (1 : Int32)) fun x12 =>
      some (.inl (p11.1, x12, p11.2))
def f_X11_numberAll (t : Nat) (h : tq_H) : Option (tq_H) :=
  (tq_loop (f_X11_numberAll_b4 t) tq_N ((0 : Int32), (0 : Int32), h)).bind fun o13 =>
  some o13
def f_X11_number_b4 (i0 : Nat) (s : Int32 × Int32 × tq_H) : Option ((Int32 × Int32 × tq_H) ⊕ (Int32 × tq_H)) := match s with
  | (y1, y2, hh) =>
    (tq_gi hh i0 11 11).bind fun x1 =>
    if y2 ≥ x1 then
      some (.inr (y1, hh))
    else
      (tq_gr hh i0 11 2).bind fun k2 =>
      (tq_gr hh i0 11 12).bind fun k3 =>
      (tq_ai hh k3 y2).bind fun x4 =>
      (tq_ai hh k2 x4).bind fun x5 =>
      if x5 = (2 : Int32) then
        tq_let (y2 + (1 : Int32)) fun x6 =>
        some (.inl (y1, x6, hh))
      else
        (tq_gr hh i0 11 23).bind fun k7 =>
        (tq_gr hh i0 11 12).bind fun k8 =>
        (tq_ai hh k8 y2).bind fun x9 =>
        (tq_az hh k7 x9).bind fun x10 =>
        if x10 = 0 then
          tq_let (y2 + (1 : Int32)) fun x11 =>
          some (.inl (y1, x11, hh))
        else
          (tq_is hh i0 11).bind fun _ =>
          (f_X11_numberRow i0 y2 hh).bind fun v12 =>
          tq_let (if y1 = 0 then (if v12.1 ≥ 0 then (0 : Int32) else (1 : Int32)) else (1 : Int32)) fun p14 =>
          tq_let (if v12.1 ≥ 0 then v12.1 else (-v12.1)) fun p15 =>
          some (.inl (p14, p15, v12.2))
def f_X11_number (t : Nat) (h : tq_H) : Option (tq_H) :=
  (tq_loop (f_X11_number_b4 t) tq_N ((0 : Int32), (0 : Int32), h)).bind fun o16 =>
  (if o16.1 = 0 then
    some o16.2
  else
    (tq_is o16.2 t 11).bind fun _ =>
    (f_X11_numberAll t o16.2).bind fun v17 =>
    (tq_gi v17 t 11 10).bind fun x19 =>
    (tq_pf v17 t 11 10 (.int ((x19 + (1 : Int32))))).bind fun w20 =>
    some w20).bind fun p21 =>
  some p21
def f_X11_repeated_b26 (i0 : Nat) (i1 : Int32) (i3 : Int64) (hh : tq_H) (s : Int64 × Int32) : Option ((Int64 × Int32) ⊕ (Int64)) := match s with
  | (y6, y8) =>
    (tq_gi hh i0 11 11).bind fun x3 =>
    if y8 ≥ x3 then
      some (.inr y6)
    else
      (tq_gr hh i0 11 12).bind fun k4 =>
      (tq_ai hh k4 y8).bind fun x5 =>
      (if (lg_cmp ((i3 >>> (x5.toInt64 &&& 63)) &&& (1 : Int64)) (1 : Int64)) = 0 then
        (tq_gr hh i0 11 29).bind fun k6 =>
        (tq_gr hh i0 11 12).bind fun k7 =>
        (tq_ai hh k7 y8).bind fun x8 =>
        (tq_aj hh k6 (((60 : Int32) * i1) + x8)).bind fun x9 =>
        some x9
      else
        some (0 : Int64)).bind fun p10 =>
      tq_let ((y6 ||| p10)) fun x11 =>
      tq_let (y8 + (1 : Int32)) fun x12 =>
      some (.inl (x11, x12))
def f_X11_repeated_b15 (i0 : Nat) (i1 : Int32) (hh : tq_H) (s : Int64 × Int32) : Option ((Int64 × Int32) ⊕ (Int64)) := match s with
  | (y3, y5) =>
    if y5 = 0 then
      some (.inr y3)
    else
      (tq_loop (f_X11_repeated_b26 i0 i1 y3 hh) tq_N (y3, (0 : Int32))).bind fun o13 =>
      tq_let (if (lg_cmp o13 y3) = 0 then (0 : Int32) else (1 : Int32)) fun p14 =>
      some (.inl (o13, p14))
def f_X11_repeated (t : Nat) (a1 : Int32) (a2 : Int32) (h : tq_H) : Option (Int64) :=
  (tq_gr h t 11 29).bind fun k1 =>
  (tq_aj h k1 (((60 : Int32) * a1) + a2)).bind fun x2 =>
  (tq_loop (f_X11_repeated_b15 t a1 h) tq_N (x2, (1 : Int32))).bind fun o15 =>
  some o15
def f_X11_axis_b6 (i0 : Nat) (i1 : Int32) (i2 : Int32) (i3 : Int32) (hh : tq_H) (s : Int64 × Int32) : Option ((Int64 × Int32) ⊕ (Int64)) := match s with
  | (y4, y6) =>
    (tq_gi hh i0 11 11).bind fun x1 =>
    if y6 ≥ x1 then
      some (.inr y4)
    else
      (tq_gr hh i0 11 12).bind fun k2 =>
      (tq_ai hh k2 y6).bind fun x3 =>
      (tq_gr hh i0 11 2).bind fun k4 =>
      (tq_ai hh k4 x3).bind fun x5 =>
      tq_let (if x5 = (2 : Int32) then (0 : Int32) else (1 : Int32)) fun p6 =>
      (tq_is hh i0 11).bind fun _ =>
      (f_X11_isBelow i0 x3 i3 hh).bind fun v7 =>
      (tq_is hh i0 11).bind fun _ =>
      (f_X11_isBelow i0 i3 x3 hh).bind fun v9 =>
      (if p6 = 0 then
        some (0 : Int32)
      else
        (tq_gr hh i0 11 2).bind fun k11 =>
        (tq_ai hh k11 i3).bind fun x12 =>
        if x12 = (2 : Int32) then
          some (0 : Int32)
        else
          if x3 = i3 then
            some (0 : Int32)
          else
            (tq_gr hh i0 11 6).bind fun k13 =>
            (tq_ai hh k13 x3).bind fun x14 =>
            if x14 = (-1 : Int32) then
              some (0 : Int32)
            else
              (tq_gr hh i0 11 6).bind fun k15 =>
              (tq_ai hh k15 x3).bind fun x16 =>
              (tq_gr hh i0 11 6).bind fun k17 =>
              (tq_ai hh k17 i3).bind fun x18 =>
              if x16 = x18 then
                some (1 : Int32)
              else
                some (0 : Int32)).bind fun p19 =>
      (if i1 = (0 : Int32) then
        tq_let (if x3 = i3 then (1 : Int32) else (0 : Int32)) fun p20 =>
        some p20
      else
      if i1 = (1 : Int32) then
        (if p6 = 0 then
          some (0 : Int32)
        else
          (tq_gr hh i0 11 6).bind fun k21 =>
          (tq_ai hh k21 x3).bind fun x22 =>
          if x22 = i3 then
            some (1 : Int32)
          else
            some (0 : Int32)).bind fun p23 =>
        some p23
      else
      if i1 = (2 : Int32) then
        (tq_gr hh i0 11 6).bind fun k24 =>
        (tq_ai hh k24 i3).bind fun x25 =>
        tq_let (if x25 = x3 then (1 : Int32) else (0 : Int32)) fun p26 =>
        some p26
      else
      if i1 = (3 : Int32) then
        tq_let (if p6 = 0 then (0 : Int32) else (if v7 = 0 then (0 : Int32) else (1 : Int32))) fun p27 =>
        some p27
      else
      if i1 = (4 : Int32) then
        tq_let (if p6 = 0 then (if x3 = i3 then (1 : Int32) else (0 : Int32)) else (if v7 = 0 then if x3 = i3 then (1 : Int32) else (0 : Int32) else (1 : Int32))) fun p28 =>
        some p28
      else
      if i1 = (5 : Int32) then
        some v9
      else
      if i1 = (6 : Int32) then
        tq_let (if v9 = 0 then (if x3 = i3 then (1 : Int32) else (0 : Int32)) else (1 : Int32)) fun p29 =>
        some p29
      else
      if i1 = (7 : Int32) then
        (if p6 = 0 then
          some (0 : Int32)
        else
          (tq_gr hh i0 11 13).bind fun k30 =>
          (tq_ai hh k30 x3).bind fun x31 =>
          (tq_gr hh i0 11 13).bind fun k32 =>
          (tq_ai hh k32 i3).bind fun x33 =>
          if x31 ≤ x33 then
            some (0 : Int32)
          else
            if v7 = 0 then
              some (1 : Int32)
            else
              some (0 : Int32)).bind fun p34 =>
        some p34
      else
      if i1 = (8 : Int32) then
        (if p6 = 0 then
          some (0 : Int32)
        else
          (tq_gr hh i0 11 13).bind fun k35 =>
          (tq_ai hh k35 x3).bind fun x36 =>
          (tq_gr hh i0 11 13).bind fun k37 =>
          (tq_ai hh k37 i3).bind fun x38 =>
          if x36 ≥ x38 then
            some (0 : Int32)
          else
            if v9 = 0 then
              some (1 : Int32)
            else
              some (0 : Int32)).bind fun p39 =>
        some p39
      else
      if i1 = (9 : Int32) then
        (if p19 = 0 then
          some (0 : Int32)
        else
          (tq_gr hh i0 11 7).bind fun k40 =>
          (tq_ai hh k40 x3).bind fun x41 =>
          (tq_gr hh i0 11 7).bind fun k42 =>
          (tq_ai hh k42 i3).bind fun x43 =>
          if x41 ≤ x43 then
            some (0 : Int32)
          else
            some (1 : Int32)).bind fun p44 =>
        some p44
      else
      if i1 = (10 : Int32) then
        (if p19 = 0 then
          some (0 : Int32)
        else
          (tq_gr hh i0 11 7).bind fun k45 =>
          (tq_ai hh k45 x3).bind fun x46 =>
          (tq_gr hh i0 11 7).bind fun k47 =>
          (tq_ai hh k47 i3).bind fun x48 =>
          if x46 ≥ x48 then
            some (0 : Int32)
          else
            some (1 : Int32)).bind fun p49 =>
        some p49
      else
      if i1 = (11 : Int32) then
        (if p6 = 0 then
          (tq_gr hh i0 11 6).bind fun k50 =>
          (tq_ai hh k50 x3).bind fun x51 =>
          if x51 = i3 then
            some (1 : Int32)
          else
            some (0 : Int32)
        else
          some (0 : Int32)).bind fun p52 =>
        some p52
      else
        some (0 : Int32)).bind fun p53 =>
      tq_let (if p53 = 0 then (0 : Int64) else ((1 : Int64) <<< (x3.toInt64 &&& 63))) fun p54 =>
      tq_let ((y4 ||| p54)) fun x55 =>
      tq_let (y6 + (1 : Int32)) fun x56 =>
      some (.inl (x55, x56))
def f_X11_axis (t : Nat) (a1 : Int32) (a2 : Int32) (a3 : Int32) (h : tq_H) : Option (Int64) :=
  (tq_loop (f_X11_axis_b6 t a1 a2 a3 h) tq_N ((0 : Int64), (0 : Int32))).bind fun o57 =>
  (if a1 = (12 : Int32) then
    (tq_is h t 11).bind fun _ =>
    (f_X11_repeated t a2 a3 h).bind fun v58 =>
    some v58
  else
    some o57).bind fun p60 =>
  (tq_gl h t 11 31).bind fun x61 =>
  some (p60 &&& x61)
def f_X11_passes (t : Nat) (a1 : Int32) (a2 : Int32) (h : tq_H) : Option (Int32) :=
  (if a1 ≥ (8 : Int32) then
    if a1 = (8 : Int32) then
      some (1 : Int32)
    else
      if a1 = (9 : Int32) then
        (tq_gr h t 11 2).bind fun k5 =>
        (tq_ai h k5 a2).bind fun x6 =>
        if x6 = (1 : Int32) then
          some (1 : Int32)
        else
          some (0 : Int32)
      else
        (tq_gr h t 11 2).bind fun k1 =>
        (tq_ai h k1 a2).bind fun x2 =>
        if x2 = 0 then
          (tq_is h t 11).bind fun _ =>
          (f_X11_spaceOf t a2 h).bind fun v3 =>
          if v3 = (a1 - (10 : Int32)) then
            some (1 : Int32)
          else
            some (0 : Int32)
        else
          some (0 : Int32)
  else
    (tq_gr h t 11 2).bind fun k7 =>
    (tq_ai h k7 a2).bind fun x8 =>
    if x8 = (1 : Int32) then
      some (0 : Int32)
    else
      (tq_gr h t 11 3).bind fun k9 =>
      (tq_ai h k9 a2).bind fun x10 =>
      if x10 = a1 then
        some (1 : Int32)
      else
        some (0 : Int32)).bind fun p11 =>
  (tq_bz p11).bind fun z12 =>
  some z12
def f_X11_compares (a0 : Int32) (a1 : Int32) (a2 : Int32) (h : tq_H) : Option (Int32) :=
  tq_let (if a0 = 0 then (if a1 = a2 then (1 : Int32) else (0 : Int32)) else (if a0 = (1 : Int32) then if a1 ≥ a2 then (0 : Int32) else (1 : Int32) else if a1 ≤ a2 then (0 : Int32) else (1 : Int32))) fun p1 =>
  (tq_bz p1).bind fun z2 =>
  some z2
def f_X11_holds_b116 (i0 : Nat) (i1 : Int32) (i6 : Int64) (hh : tq_H) (s : Int32 × Int32) : Option ((Int32 × Int32) ⊕ (Int32)) := match s with
  | (y8, y9) =>
    (tq_gi hh i0 11 11).bind fun x7 =>
    if y9 ≥ x7 then
      some (.inr y8)
    else
      (tq_gr hh i0 11 12).bind fun k8 =>
      (tq_ai hh k8 y9).bind fun x9 =>
      (if (lg_cmp ((i6 >>> (x9.toInt64 &&& 63)) &&& (1 : Int64)) (1 : Int64)) = 0 then
        (tq_gr hh i0 11 12).bind fun k10 =>
        (tq_ai hh k10 y9).bind fun x11 =>
        (tq_gl hh i0 11 31).bind fun x12 =>
        (tq_is hh i0 11).bind fun _ =>
        (f_X11_valueOf i0 x11 x12 hh).bind fun v13 =>
        some v13
      else
        some (-1 : Int32)).bind fun p15 =>
      (if y8 = 0 then
        if p15 = (-1 : Int32) then
          some (0 : Int32)
        else
          (tq_gr hh i0 11 28).bind fun k16 =>
          (tq_ai hh k16 (i1 + (2 : Int32))).bind fun x17 =>
          (tq_gr hh i0 11 28).bind fun k18 =>
          (tq_ai hh k18 (i1 + (3 : Int32))).bind fun x19 =>
          (f_X11_compares x17 p15 x19 hh).bind fun v20 =>
          if v20 = 0 then
            some (0 : Int32)
          else
            some (1 : Int32)
      else
        some (1 : Int32)).bind fun p21 =>
      tq_let (y9 + (1 : Int32)) fun x22 =>
      some (.inl (p21, x22))
def f_X11_holds (t : Nat) (a1 : Int32) (a2 : Int32) (a3 : Int32) (a4 : Int32) (h : tq_H) : Option (Int32) :=
  (tq_gr h t 11 28).bind fun k1 =>
  (tq_ai h k1 a1).bind fun x2 =>
  if x2 = 0 then
    (tq_gr h t 11 28).bind fun k31 =>
    (tq_ai h k31 (a1 + (2 : Int32))).bind fun x32 =>
    (tq_gr h t 11 28).bind fun k33 =>
    (tq_ai h k33 (a1 + (3 : Int32))).bind fun x34 =>
    (f_X11_compares x32 a3 x34 h).bind fun v35 =>
    (tq_bz v35).bind fun z36 =>
    some z36
  else
    if x2 = (1 : Int32) then
      tq_let (if a3 = a4 then (1 : Int32) else (0 : Int32)) fun p29 =>
      (tq_bz p29).bind fun z30 =>
      some z30
    else
      (tq_gr h t 11 29).bind fun k3 =>
      (tq_gr h t 11 28).bind fun k4 =>
      (tq_ai h k4 (a1 + (1 : Int32))).bind fun x5 =>
      (tq_aj h k3 (((60 : Int32) * x5) + a2)).bind fun x6 =>
      if x2 = (4 : Int32) then
        (tq_loop (f_X11_holds_b116 t a1 x6 h) tq_N ((0 : Int32), (0 : Int32))).bind fun o23 =>
        (tq_bz o23).bind fun z24 =>
        some z24
      else
        tq_let (if (lg_cmp x6 (0 : Int64)) = 0 then (0 : Int32) else (1 : Int32)) fun p25 =>
        tq_let (if x2 = (2 : Int32) then (1 : Int32) else (0 : Int32)) fun p26 =>
        tq_let (if p25 = p26 then (1 : Int32) else (0 : Int32)) fun p27 =>
        (tq_bz p27).bind fun z28 =>
        some z28
def f_X11_stepped_b30 (i0 : Nat) (i1 : Int32) (i3 : Int32) (hh : tq_H) (s : Int64 × Int32) : Option ((Int64 × Int32) ⊕ (Int64)) := match s with
  | (y4, y6) =>
    (tq_gi hh i0 11 11).bind fun x7 =>
    if y6 ≥ x7 then
      some (.inr y4)
    else
      (tq_gr hh i0 11 26).bind fun k8 =>
      (tq_ai hh k8 (((3 : Int32) * i1) + (1 : Int32))).bind fun x9 =>
      (tq_gr hh i0 11 12).bind fun k10 =>
      (tq_ai hh k10 y6).bind fun x11 =>
      (tq_is hh i0 11).bind fun _ =>
      (f_X11_passes i0 x9 x11 hh).bind fun v12 =>
      (if v12 = 0 then
        (tq_gr hh i0 11 12).bind fun k14 =>
        (tq_ai hh k14 y6).bind fun x15 =>
        some (((1 : Int64) <<< (x15.toInt64 &&& 63)) ^^^ (-1 : Int64))
      else
        some (-1 : Int64)).bind fun p16 =>
      tq_let ((y4 &&& p16)) fun x17 =>
      tq_let (y6 + (1 : Int32)) fun x18 =>
      some (.inl (x17, x18))
def f_X11_stepped_b148 (i0 : Nat) (i1 : Int32) (i4 : Int64) (i6 : Int32) (i7 : Int32) (s : Int32 × Int32 × tq_H) : Option ((Int32 × Int32 × tq_H) ⊕ (Int32 × tq_H)) := match s with
  | (y8, y9, hh) =>
    (tq_gi hh i0 11 11).bind fun x23 =>
    if y9 ≥ x23 then
      some (.inr (y8, hh))
    else
      (tq_gr hh i0 11 12).bind fun k24 =>
      (if i6 = 0 then
        some y9
      else
        (tq_gi hh i0 11 11).bind fun x25 =>
        some ((x25 - (1 : Int32)) - y9)).bind fun p26 =>
      (tq_ai hh k24 p26).bind fun x27 =>
      (if (lg_cmp ((i4 >>> (x27.toInt64 &&& 63)) &&& (1 : Int64)) (1 : Int64)) = 0 then
        (tq_gr hh i0 11 35).bind fun k28 =>
        (tq_si hh k28 y8 x27).bind fun w29 =>
        tq_let (y8 + (1 : Int32)) fun x30 =>
        some (x30, w29)
      else
        some (y8, hh)).bind fun p31 =>
      tq_let (y9 + (1 : Int32)) fun x32 =>
      some (.inl (p31.1, x32, p31.2))
def f_X11_stepped_b216 (i0 : Nat) (i1 : Int32) (i6 : Int32) (i7 : Int32) (i8 : Int32) (hh : tq_H) (s : Int64 × Int32) : Option ((Int64 × Int32) ⊕ (Int64)) := match s with
  | (y4, y9) =>
    if y9 ≥ i8 then
      some (.inr y4)
    else
      (tq_gr hh i0 11 35).bind fun k34 =>
      (tq_ai hh k34 y9).bind fun x35 =>
      (tq_is hh i0 11).bind fun _ =>
      (f_X11_holds i0 ((4 : Int32) * (((2 : Int32) * i1) + i7)) x35 (y9 + (1 : Int32)) i8 hh).bind fun v36 =>
      (if v36 = 0 then
        (tq_gr hh i0 11 35).bind fun k38 =>
        (tq_ai hh k38 y9).bind fun x39 =>
        some (((1 : Int64) <<< (x39.toInt64 &&& 63)) ^^^ (-1 : Int64))
      else
        some (-1 : Int64)).bind fun p40 =>
      tq_let ((y4 &&& p40)) fun x41 =>
      tq_let (y9 + (1 : Int32)) fun x42 =>
      some (.inl (x41, x42))
def f_X11_stepped_b131 (i0 : Nat) (i1 : Int32) (i6 : Int32) (s : Int64 × Int32 × tq_H) : Option ((Int64 × Int32 × tq_H) ⊕ (Int64 × tq_H)) := match s with
  | (y4, y7, hh) =>
    (tq_gr hh i0 11 27).bind fun k21 =>
    (tq_ai hh k21 i1).bind fun x22 =>
    if y7 ≥ x22 then
      some (.inr (y4, hh))
    else
      (tq_loop (f_X11_stepped_b148 i0 i1 y4 i6 y7) tq_N ((0 : Int32), (0 : Int32), hh)).bind fun o33 =>
      (tq_loop (f_X11_stepped_b216 i0 i1 i6 y7 o33.1 o33.2) tq_N (y4, (0 : Int32))).bind fun o43 =>
      tq_let (y7 + (1 : Int32)) fun x44 =>
      some (.inl (o43, x44, o33.2))
def f_X11_stepped (t : Nat) (a1 : Int32) (a2 : Int32) (h : tq_H) : Option (Int64 × tq_H) :=
  (tq_gr h t 11 26).bind fun k1 =>
  (tq_ai h k1 ((3 : Int32) * a1)).bind fun x2 =>
  (tq_gr h t 11 26).bind fun k3 =>
  (tq_ai h k3 (((3 : Int32) * a1) + (2 : Int32))).bind fun x4 =>
  (tq_is h t 11).bind fun _ =>
  (f_X11_axis t x2 x4 a2 h).bind fun v5 =>
  (tq_loop (f_X11_stepped_b30 t a1 x2 h) tq_N (v5, (0 : Int32))).bind fun o19 =>
  tq_let (if x2 = (2 : Int32) then (1 : Int32) else (if x2 = (5 : Int32) then (1 : Int32) else if x2 = (6 : Int32) then (1 : Int32) else if x2 = (8 : Int32) then (1 : Int32) else if x2 = (10 : Int32) then (1 : Int32) else (0 : Int32))) fun p20 =>
  (tq_loop (f_X11_stepped_b131 t a1 p20) tq_N (o19, (0 : Int32), h)).bind fun o45 =>
  some (o45.1, o45.2)
def f_X11_findAll_b18 (i0 : Nat) (i1 : Int64) (i3 : Int32) (s : Int32 × tq_H) : Option ((Int32 × tq_H) ⊕ (tq_H)) := match s with
  | (y4, hh) =>
    (tq_gr hh i0 11 25).bind fun k3 =>
    (tq_ai hh k3 i3).bind fun x4 =>
    (tq_gi hh i0 11 11).bind fun x5 =>
    if y4 ≥ (x4 * x5) then
      some (.inr hh)
    else
      (tq_gr hh i0 11 12).bind fun k6 =>
      (tq_gi hh i0 11 11).bind fun x7 =>
      (tq_nz x7).bind fun _ =>
      (tq_ai hh k6 (y4 - y4 / x7 * x7)).bind fun x8 =>
      (tq_gr hh i0 11 30).bind fun k9 =>
      (tq_gi hh i0 11 11).bind fun x10 =>
      (tq_nz x10).bind fun _ =>
      (if (lg_cmp ((i1 >>> (x8.toInt64 &&& 63)) &&& (1 : Int64)) (1 : Int64)) = 0 then
        (tq_gi hh i0 11 11).bind fun x11 =>
        (tq_nz x11).bind fun _ =>
        (tq_is hh i0 11).bind fun _ =>
        (f_X11_stepped i0 (((5 : Int32) * i3) + (y4 / x11)) x8 hh).bind fun v12 =>
        some (v12.1, v12.2)
      else
        some ((0 : Int64), hh)).bind fun p15 =>
      (tq_sl p15.2 k9 (((60 : Int32) * (y4 / x10)) + x8) p15.1).bind fun w16 =>
      tq_let (y4 + (1 : Int32)) fun x17 =>
      some (.inl (x17, w16))
def f_X11_findAll_b166 (i0 : Nat) (i1 : Int64) (i3 : Int32) (i4 : Int32) (i5 : Int32) (i6 : Int64) (i8 : Int32) (hh : tq_H) (s : Int64 × Int32) : Option ((Int64 × Int32) ⊕ (Int64)) := match s with
  | (y9, y11) =>
    (tq_gi hh i0 11 11).bind fun x27 =>
    if y11 ≥ x27 then
      some (.inr y9)
    else
      (tq_gr hh i0 11 12).bind fun k28 =>
      (tq_ai hh k28 y11).bind fun x29 =>
      (if (lg_cmp ((i6 >>> (x29.toInt64 &&& 63)) &&& (1 : Int64)) (1 : Int64)) = 0 then
        (tq_gr hh i0 11 30).bind fun k30 =>
        (tq_gr hh i0 11 12).bind fun k31 =>
        (tq_ai hh k31 y11).bind fun x32 =>
        (tq_aj hh k30 (((60 : Int32) * i8) + x32)).bind fun x33 =>
        some x33
      else
        some (0 : Int64)).bind fun p34 =>
      tq_let ((y9 ||| p34)) fun x35 =>
      tq_let (y11 + (1 : Int32)) fun x36 =>
      some (.inl (x35, x36))
def f_X11_findAll_b149 (i0 : Nat) (i1 : Int64) (i3 : Int32) (i4 : Int32) (i5 : Int32) (hh : tq_H) (s : Int64 × Int32) : Option ((Int64 × Int32) ⊕ (Int64)) := match s with
  | (y6, y8) =>
    (tq_gr hh i0 11 25).bind fun k25 =>
    (tq_ai hh k25 i3).bind fun x26 =>
    if y8 ≥ x26 then
      some (.inr y6)
    else
      (tq_loop (f_X11_findAll_b166 i0 i1 i3 i4 i5 y6 y8 hh) tq_N ((0 : Int64), (0 : Int32))).bind fun o37 =>
      tq_let (y8 + (1 : Int32)) fun x38 =>
      some (.inl (o37, x38))
def f_X11_findAll_b107 (i0 : Nat) (i1 : Int64) (i3 : Int32) (s : Int32 × tq_H) : Option ((Int32 × tq_H) ⊕ (tq_H)) := match s with
  | (y4, hh) =>
    (tq_gi hh i0 11 11).bind fun x21 =>
    if y4 ≥ x21 then
      some (.inr hh)
    else
      (tq_gr hh i0 11 12).bind fun k22 =>
      (tq_ai hh k22 y4).bind fun x23 =>
      tq_let (if (lg_cmp ((i1 >>> (x23.toInt64 &&& 63)) &&& (1 : Int64)) (1 : Int64)) = 0 then ((1 : Int64) <<< (x23.toInt64 &&& 63)) else (0 : Int64)) fun p24 =>
      (tq_loop (f_X11_findAll_b149 i0 i1 i3 y4 x23 hh) tq_N (p24, (0 : Int32))).bind fun o39 =>
      (tq_gr hh i0 11 29).bind fun k40 =>
      (tq_sl hh k40 (((60 : Int32) * i3) + x23) o39).bind fun w41 =>
      tq_let (y4 + (1 : Int32)) fun x42 =>
      some (.inl (x42, w41))
def f_X11_findAll_b7 (i0 : Nat) (i1 : Int64) (s : Int32 × tq_H) : Option ((Int32 × tq_H) ⊕ (tq_H)) := match s with
  | (y3, hh) =>
    (tq_gi hh i0 11 24).bind fun x2 =>
    if y3 ≥ x2 then
      some (.inr hh)
    else
      (tq_loop (f_X11_findAll_b18 i0 i1 y3) tq_N ((0 : Int32), hh)).bind fun o20 =>
      (tq_loop (f_X11_findAll_b107 i0 i1 y3) tq_N ((0 : Int32), o20)).bind fun o43 =>
      tq_let (y3 + (1 : Int32)) fun x44 =>
      some (.inl (x44, o43))
def f_X11_findAll (t : Nat) (a1 : Int64) (h : tq_H) : Option (tq_H) :=
  (tq_pf h t 11 31 (.long a1)).bind fun w1 =>
  (tq_loop (f_X11_findAll_b7 t a1) tq_N ((0 : Int32), w1)).bind fun o45 =>
  some o45
def f_X11_bits_b4 (hh : tq_H) (s : Int32 × Int64) : Option ((Int32 × Int64) ⊕ (Int32)) := match s with
  | (y2, y3) =>
    if (lg_cmp y3 (0 : Int64)) = 0 then
      some (.inr y2)
    else
      tq_let (y2 + (1 : Int32)) fun x1 =>
      tq_let ((y3 &&& (y3 - (1 : Int64)))) fun x2 =>
      some (.inl (x1, x2))
def f_X11_bits (a0 : Int64) (h : tq_H) : Option (Int32) :=
  (tq_loop (f_X11_bits_b4 h) tq_N ((0 : Int32), a0)).bind fun o3 =>
  some o3
def f_X11_lookAtViews_b10 (i0 : Nat) (s : Int32 × tq_H) : Option ((Int32 × tq_H) ⊕ (tq_H)) := match s with
  | (y1, hh) =>
    (tq_gi hh i0 11 45).bind fun x5 =>
    if y1 ≥ x5 then
      some (.inr hh)
    else
      (tq_gr hh i0 11 29).bind fun k6 =>
      (tq_gr hh i0 11 46).bind fun k7 =>
      (tq_ai hh k7 y1).bind fun x8 =>
      (tq_aj hh k6 ((60 : Int32) * x8)).bind fun x9 =>
      (tq_gr hh i0 11 47).bind fun k10 =>
      (tq_gr hh i0 11 48).bind fun k11 =>
      (tq_aj hh k11 y1).bind fun x12 =>
      (f_X11_bits (x9 ^^^ x12) hh).bind fun v13 =>
      (tq_si hh k10 y1 v13).bind fun w14 =>
      (tq_gr w14 i0 11 48).bind fun k15 =>
      (tq_sl w14 k15 y1 x9).bind fun w16 =>
      tq_let (y1 + (1 : Int32)) fun x17 =>
      some (.inl (x17, w16))
def f_X11_lookAtViews (t : Nat) (h : tq_H) : Option (tq_H) :=
  (tq_is h t 11).bind fun _ =>
  (f_X11_all t h).bind fun v1 =>
  (tq_is h t 11).bind fun _ =>
  (f_X11_findAll t v1 h).bind fun v3 =>
  (tq_loop (f_X11_lookAtViews_b10 t) tq_N ((0 : Int32), v3)).bind fun o18 =>
  some o18
def f_X11_apply_b63 (i0 : Nat) (i1 : Int32) (i2 : Int64) (s : Int32 × tq_H) : Option ((Int32 × tq_H) ⊕ (tq_H)) := match s with
  | (y5, hh) =>
    (tq_gi hh i0 11 1).bind fun x17 =>
    if y5 ≥ x17 then
      some (.inr hh)
    else
      (tq_gr hh i0 11 9).bind fun k18 =>
      (tq_gr hh i0 11 9).bind fun k19 =>
      (tq_az hh k19 y5).bind fun x20 =>
      (if x20 = 0 then
        if y5 < i1 then
          some (0 : Int32)
        else
          (tq_is hh i0 11).bind fun _ =>
          (f_X11_hangs i0 y5 hh).bind fun v23 =>
          if v23 = 0 then
            some (0 : Int32)
          else
            some (1 : Int32)
      else
        (tq_is hh i0 11).bind fun _ =>
        (f_X11_hangs i0 y5 hh).bind fun v21 =>
        if v21 = 0 then
          some (0 : Int32)
        else
          some (1 : Int32)).bind fun p25 =>
      (tq_sz hh k18 y5 p25).bind fun w26 =>
      tq_let (y5 + (1 : Int32)) fun x27 =>
      some (.inl (x27, w26))
def f_X11_apply (t : Nat) (h : tq_H) : Option (Int32 × tq_H) :=
  (tq_is h t 11).bind fun _ =>
  (f_X11_isAtOdds t h).bind fun v1 =>
  (if v1 = 0 then
    (tq_is h t 11).bind fun _ =>
    (f_X11_madeBehind t h).bind fun v3 =>
    if v3 ≤ (60 : Int32) then
      some (0 : Int32)
    else
      some (1 : Int32)
  else
    some (1 : Int32)).bind fun p5 =>
  (tq_is h t 11).bind fun _ =>
  (f_X11_refused t p5 h).bind fun v6 =>
  if v6.1 = 0 then
    (tq_is v6.2 t 11).bind fun _ =>
    (f_X11_remember t v6.2).bind fun v8 =>
    (tq_gi v8 t 11 1).bind fun x10 =>
    (tq_is v8 t 11).bind fun _ =>
    (f_X11_all t v8).bind fun v11 =>
    (tq_is v8 t 11).bind fun _ =>
    (f_X11_perform t v8).bind fun v13 =>
    (tq_is v13 t 11).bind fun _ =>
    (f_X11_isSound t x10 v13).bind fun v15 =>
    (if v15 = 0 then
      some (v15, v13)
    else
      (tq_loop (f_X11_apply_b63 t x10 v11) tq_N ((0 : Int32), v13)).bind fun o28 =>
      (tq_is o28 t 11).bind fun _ =>
      (f_X11_arrange t o28).bind fun v29 =>
      (tq_is v29 t 11).bind fun _ =>
      (f_X11_hasTwice t v29).bind fun v31 =>
      (if v31 = 0 then
        (tq_gi v29 t 11 42).bind fun x33 =>
        if x33 = 0 then
          some ((1 : Int32), v29)
        else
          (tq_is v29 t 11).bind fun _ =>
          (f_X11_isRight t v29).bind fun v34 =>
          if v34.1 = 0 then
            some ((0 : Int32), v34.2)
          else
            some ((1 : Int32), v34.2)
      else
        some ((0 : Int32), v29)).bind fun p36 =>
      some (p36.1, p36.2)).bind fun p37 =>
    if p37.1 = 0 then
      (tq_pf p37.2 t 11 1 (.int x10)).bind fun w46 =>
      (tq_is w46 t 11).bind fun _ =>
      (f_X11_comeBack t w46).bind fun v47 =>
      (tq_is v47 t 11).bind fun _ =>
      (f_X11_arrange t v47).bind fun v49 =>
      (tq_is v49 t 11).bind fun _ =>
      (f_X11_refused t (1 : Int32) v49).bind fun v51 =>
      some ((0 : Int32), v51.2)
    else
      (tq_is p37.2 t 11).bind fun _ =>
      (f_X11_markNew t x10 v11 p37.2).bind fun v38 =>
      (tq_pf v38 t 11 15 (.int (0 : Int32))).bind fun w40 =>
      (tq_is w40 t 11).bind fun _ =>
      (f_X11_number t w40).bind fun v41 =>
      (tq_is v41 t 11).bind fun _ =>
      (f_X11_lookAtViews t v41).bind fun v43 =>
      (tq_gi v43 t 11 11).bind fun x45 =>
      some (x45, v43)
  else
    some ((0 : Int32), v6.2)
def f_X11_forget (t : Nat) (h : tq_H) : Option (Int32 × tq_H) :=
  (tq_gi h t 11 15).bind fun x1 =>
  (tq_pf h t 11 15 (.int (0 : Int32))).bind fun w2 =>
  (tq_is w2 t 11).bind fun _ =>
  (f_X11_fine t x1 w2).bind fun v3 =>
  some (v3.1, v3.2)
def f_X11_made (t : Nat) (h : tq_H) : Option (Int32 × tq_H) :=
  (tq_gi h t 11 1).bind fun x1 =>
  (tq_is h t 11).bind fun _ =>
  (f_X11_fine t x1 h).bind fun v2 =>
  some (v2.1, v2.2)
def f_X11_nodes (t : Nat) (h : tq_H) : Option (Int32 × tq_H) :=
  (tq_gi h t 11 11).bind fun x1 =>
  (tq_is h t 11).bind fun _ =>
  (f_X11_fine t x1 h).bind fun v2 =>
  some (v2.1, v2.2)
def f_X11_isThere (t : Nat) (a1 : Int32) (h : tq_H) : Option (Int32 × tq_H) :=
  (tq_pf h t 11 0 (.int (0 : Int32))).bind fun w1 =>
  (tq_is w1 t 11).bind fun _ =>
  (f_X11_isNode t a1 w1).bind fun v2 =>
  (tq_bz v2).bind fun z4 =>
  some (z4, w1)
def f_X11_noNode (t : Nat) (a1 : Int32) (h : tq_H) : Option (Int32 × tq_H) :=
  (tq_is h t 11).bind fun _ =>
  (f_X11_isNode t a1 h).bind fun v1 =>
  tq_let (if v1 = 0 then (1 : Int32) else (0 : Int32)) fun p3 =>
  (tq_is h t 11).bind fun _ =>
  (f_X11_refused t p3 h).bind fun v4 =>
  (tq_bz v4.1).bind fun z6 =>
  some (z6, v4.2)
def f_X11_kind (t : Nat) (a1 : Int32) (h : tq_H) : Option (Int32 × tq_H) :=
  (tq_is h t 11).bind fun _ =>
  (f_X11_noNode t a1 h).bind fun v1 =>
  (if v1.1 = 0 then
    (tq_gr v1.2 t 11 2).bind fun k3 =>
    (tq_ai v1.2 k3 a1).bind fun x4 =>
    some x4
  else
    some (0 : Int32)).bind fun p5 =>
  some (p5, v1.2)
def f_X11_name (t : Nat) (a1 : Int32) (h : tq_H) : Option (Int32 × tq_H) :=
  (tq_is h t 11).bind fun _ =>
  (f_X11_noNode t a1 h).bind fun v1 =>
  (if v1.1 = 0 then
    (tq_gr v1.2 t 11 2).bind fun k3 =>
    (tq_ai v1.2 k3 a1).bind fun x4 =>
    if x4 = (1 : Int32) then
      some (-1 : Int32)
    else
      (tq_gr v1.2 t 11 3).bind fun k5 =>
      (tq_ai v1.2 k5 a1).bind fun x6 =>
      some x6
  else
    some (0 : Int32)).bind fun p7 =>
  some (p7, v1.2)
def f_X11_value (t : Nat) (a1 : Int32) (h : tq_H) : Option (Int32 × tq_H) :=
  (tq_is h t 11).bind fun _ =>
  (f_X11_noNode t a1 h).bind fun v1 =>
  (if v1.1 = 0 then
    (tq_is v1.2 t 11).bind fun _ =>
    (f_X11_all t v1.2).bind fun v3 =>
    (tq_is v1.2 t 11).bind fun _ =>
    (f_X11_valueOf t a1 v3 v1.2).bind fun v5 =>
    some v5
  else
    some (0 : Int32)).bind fun p7 =>
  some (p7, v1.2)
def f_X11_parent (t : Nat) (a1 : Int32) (h : tq_H) : Option (Int32 × tq_H) :=
  (tq_is h t 11).bind fun _ =>
  (f_X11_noNode t a1 h).bind fun v1 =>
  (if v1.1 = 0 then
    (tq_gr v1.2 t 11 6).bind fun k3 =>
    (tq_ai v1.2 k3 a1).bind fun x4 =>
    some x4
  else
    some (0 : Int32)).bind fun p5 =>
  some (p5, v1.2)
def f_X11_child (t : Nat) (a1 : Int32) (a2 : Int32) (h : tq_H) : Option (Int32 × tq_H) :=
  (tq_is h t 11).bind fun _ =>
  (f_X11_isNode t a1 h).bind fun v1 =>
  tq_let (if v1 = 0 then (1 : Int32) else (if a2 < 0 then (1 : Int32) else (0 : Int32))) fun p3 =>
  (tq_is h t 11).bind fun _ =>
  (f_X11_refused t p3 h).bind fun v4 =>
  (if v4.1 = 0 then
    (tq_is v4.2 t 11).bind fun _ =>
    (f_X11_childAt t a1 a2 v4.2).bind fun v6 =>
    some v6
  else
    some (0 : Int32)).bind fun p8 =>
  some (p8, v4.2)
def f_X11_space (t : Nat) (a1 : Int32) (h : tq_H) : Option (Int32 × tq_H) :=
  (tq_is h t 11).bind fun _ =>
  (f_X11_noNode t a1 h).bind fun v1 =>
  (if v1.1 = 0 then
    (tq_gr v1.2 t 11 2).bind fun k3 =>
    (tq_ai v1.2 k3 a1).bind fun x4 =>
    if x4 = 0 then
      (tq_is v1.2 t 11).bind fun _ =>
      (f_X11_spaceOf t a1 v1.2).bind fun v5 =>
      some v5
    else
      some (-1 : Int32)
  else
    some (0 : Int32)).bind fun p7 =>
  some (p7, v1.2)
def f_X11_number_ (t : Nat) (a1 : Int32) (h : tq_H) : Option (Int32 × tq_H) :=
  (tq_is h t 11).bind fun _ =>
  (f_X11_noNode t a1 h).bind fun v1 =>
  (if v1.1 = 0 then
    (tq_gr v1.2 t 11 2).bind fun k3 =>
    (tq_ai v1.2 k3 a1).bind fun x4 =>
    if x4 = (2 : Int32) then
      some (-1 : Int32)
    else
      (tq_gr v1.2 t 11 8).bind fun k5 =>
      (tq_ai v1.2 k5 a1).bind fun x6 =>
      some x6
  else
    some (0 : Int32)).bind fun p7 =>
  some (p7, v1.2)
def f_X11_numbered (t : Nat) (h : tq_H) : Option (Int32 × tq_H) :=
  (tq_gi h t 11 10).bind fun x1 =>
  (tq_is h t 11).bind fun _ =>
  (f_X11_fine t x1 h).bind fun v2 =>
  some (v2.1, v2.2)
def f_X11_isPath (t : Nat) (a1 : Int32) (h : tq_H) : Option (Int32) :=
  (tq_gi h t 11 24).bind fun x1 =>
  (f_X11_in a1 (0 : Int32) (x1 - (1 : Int32)) h).bind fun v2 =>
  (tq_bz v2).bind fun z3 =>
  some z3
def f_X11_path (t : Nat) (h : tq_H) : Option (Int32 × tq_H) :=
  (tq_gi h t 11 24).bind fun x1 =>
  tq_let (if x1 = (20 : Int32) then (1 : Int32) else (0 : Int32)) fun p2 =>
  (tq_is h t 11).bind fun _ =>
  (f_X11_refused t p2 h).bind fun v3 =>
  if v3.1 = 0 then
    (tq_gr v3.2 t 11 25).bind fun k5 =>
    (tq_gi v3.2 t 11 24).bind fun x6 =>
    (tq_si v3.2 k5 x6 (0 : Int32)).bind fun w7 =>
    (tq_gi w7 t 11 24).bind fun x8 =>
    (tq_pf w7 t 11 24 (.int ((x8 + (1 : Int32))))).bind fun w9 =>
    (tq_gi w9 t 11 24).bind fun x10 =>
    some ((x10 - (1 : Int32)), w9)
  else
    some ((0 : Int32), v3.2)
def f_X11_hasView_b4 (i0 : Nat) (i1 : Int32) (hh : tq_H) (s : Int32 × Int32) : Option ((Int32 × Int32) ⊕ (Int32)) := match s with
  | (y2, y3) =>
    (tq_gi hh i0 11 45).bind fun x1 =>
    if y3 ≥ x1 then
      some (.inr y2)
    else
      (if y2 = 0 then
        (tq_gr hh i0 11 46).bind fun k2 =>
        (tq_ai hh k2 y3).bind fun x3 =>
        if x3 = i1 then
          some (1 : Int32)
        else
          some (0 : Int32)
      else
        some (1 : Int32)).bind fun p4 =>
      tq_let (y3 + (1 : Int32)) fun x5 =>
      some (.inl (p4, x5))
def f_X11_hasView (t : Nat) (a1 : Int32) (h : tq_H) : Option (Int32) :=
  (tq_loop (f_X11_hasView_b4 t a1 h) tq_N ((0 : Int32), (0 : Int32))).bind fun o6 =>
  (tq_bz o6).bind fun z7 =>
  some z7
def f_X11_isOpen (t : Nat) (a1 : Int32) (h : tq_H) : Option (Int32) :=
  (tq_gi h t 11 24).bind fun x1 =>
  (if a1 = (x1 - (1 : Int32)) then
    (tq_is h t 11).bind fun _ =>
    (f_X11_hasView t a1 h).bind fun v2 =>
    if v2 = 0 then
      some (1 : Int32)
    else
      some (0 : Int32)
  else
    some (0 : Int32)).bind fun p4 =>
  (tq_bz p4).bind fun z5 =>
  some z5
def f_X11_step (t : Nat) (a1 : Int32) (a2 : Int32) (a3 : Int32) (a4 : Int32) (h : tq_H) : Option (Int32 × tq_H) :=
  (tq_is h t 11).bind fun _ =>
  (f_X11_isPath t a1 h).bind fun v1 =>
  (if v1 = 0 then
    some (0 : Int32)
  else
    if a2 = (12 : Int32) then
      (f_X11_in a4 (0 : Int32) (a1 - (1 : Int32)) h).bind fun v3 =>
      if v3 = 0 then
        some (0 : Int32)
      else
        some (1 : Int32)
    else
      some (1 : Int32)).bind fun p4 =>
  (f_X11_in a2 (0 : Int32) (12 : Int32) h).bind fun v5 =>
  (if v5 = 0 then
    some (0 : Int32)
  else
    (f_X11_in a3 (0 : Int32) (13 : Int32) h).bind fun v6 =>
    if v6 = 0 then
      some (0 : Int32)
    else
      if a2 = (12 : Int32) then
        some (1 : Int32)
      else
        if a4 = (-1 : Int32) then
          some (1 : Int32)
        else
          some (0 : Int32)).bind fun p7 =>
  (if p4 = 0 then
    some (1 : Int32)
  else
    if p7 = 0 then
      some (2 : Int32)
    else
      (tq_gr h t 11 25).bind fun k8 =>
      (tq_ai h k8 a1).bind fun x9 =>
      if x9 = (5 : Int32) then
        some (3 : Int32)
      else
        (tq_is h t 11).bind fun _ =>
        (f_X11_isOpen t a1 h).bind fun v10 =>
        if v10 = 0 then
          some (3 : Int32)
        else
          some (0 : Int32)).bind fun p12 =>
  (tq_is h t 11).bind fun _ =>
  (f_X11_refused t p12 h).bind fun v13 =>
  if v13.1 = 0 then
    (tq_gr v13.2 t 11 25).bind fun k15 =>
    (tq_ai v13.2 k15 a1).bind fun x16 =>
    tq_let ((((5 : Int32) * a1) + x16)) fun x17 =>
    (tq_gr v13.2 t 11 26).bind fun k18 =>
    (tq_si v13.2 k18 ((3 : Int32) * x17) a2).bind fun w19 =>
    (tq_gr w19 t 11 26).bind fun k20 =>
    (tq_si w19 k20 (((3 : Int32) * x17) + (1 : Int32)) a3).bind fun w21 =>
    (tq_gr w21 t 11 26).bind fun k22 =>
    (tq_si w21 k22 (((3 : Int32) * x17) + (2 : Int32)) a4).bind fun w23 =>
    (tq_gr w23 t 11 27).bind fun k24 =>
    (tq_si w23 k24 x17 (0 : Int32)).bind fun w25 =>
    (tq_gr w25 t 11 25).bind fun k26 =>
    (tq_ai w25 k26 a1).bind fun x27 =>
    (tq_si w25 k26 a1 (x27 + (1 : Int32))).bind fun w28 =>
    (tq_gr w28 t 11 25).bind fun k29 =>
    (tq_ai w28 k29 a1).bind fun x30 =>
    some (x30, w28)
  else
    some ((0 : Int32), v13.2)
def f_X11_takesCondition (t : Nat) (a1 : Int32) (h : tq_H) : Option (Int32) :=
  (tq_gr h t 11 25).bind fun k1 =>
  (tq_ai h k1 a1).bind fun x2 =>
  (if x2 ≤ 0 then
    some (0 : Int32)
  else
    (tq_gr h t 11 27).bind fun k3 =>
    (tq_gr h t 11 25).bind fun k4 =>
    (tq_ai h k4 a1).bind fun x5 =>
    (tq_ai h k3 ((((5 : Int32) * a1) + x5) - (1 : Int32))).bind fun x6 =>
    if x6 ≥ (2 : Int32) then
      some (0 : Int32)
    else
      (tq_is h t 11).bind fun _ =>
      (f_X11_isOpen t a1 h).bind fun v7 =>
      if v7 = 0 then
        some (0 : Int32)
      else
        some (1 : Int32)).bind fun p9 =>
  (tq_bz p9).bind fun z10 =>
  some z10
def f_X11_condition (t : Nat) (a1 : Int32) (a2 : Int32) (a3 : Int32) (a4 : Int32) (a5 : Int32) (h : tq_H) : Option (Int32 × tq_H) :=
  (tq_gr h t 11 25).bind fun k1 =>
  (tq_ai h k1 a1).bind fun x2 =>
  tq_let (((((5 : Int32) * a1) + x2) - (1 : Int32))) fun x3 =>
  (tq_gr h t 11 27).bind fun k4 =>
  (tq_ai h k4 x3).bind fun x5 =>
  tq_let (((4 : Int32) * (((2 : Int32) * x3) + x5))) fun x6 =>
  (tq_gr h t 11 28).bind fun k7 =>
  (tq_si h k7 x6 a2).bind fun w8 =>
  (tq_gr w8 t 11 28).bind fun k9 =>
  (tq_si w8 k9 (x6 + (1 : Int32)) a3).bind fun w10 =>
  (tq_gr w10 t 11 28).bind fun k11 =>
  (tq_si w10 k11 (x6 + (2 : Int32)) a4).bind fun w12 =>
  (tq_gr w12 t 11 28).bind fun k13 =>
  (tq_si w12 k13 (x6 + (3 : Int32)) a5).bind fun w14 =>
  (tq_gr w14 t 11 27).bind fun k15 =>
  (tq_ai w14 k15 x3).bind fun x16 =>
  (tq_si w14 k15 x3 (x16 + (1 : Int32))).bind fun w17 =>
  (tq_gr w17 t 11 27).bind fun k18 =>
  (tq_ai w17 k18 x3).bind fun x19 =>
  some (x19, w17)
def f_X11_place (t : Nat) (a1 : Int32) (a2 : Int32) (a3 : Int32) (h : tq_H) : Option (Int32 × tq_H) :=
  (f_X11_in a2 (0 : Int32) (2 : Int32) h).bind fun v1 =>
  (if v1 = 0 then
    some (0 : Int32)
  else
    (f_X11_in a3 (0 : Int32) (99 : Int32) h).bind fun v2 =>
    if v2 = 0 then
      some (0 : Int32)
    else
      some (1 : Int32)).bind fun p3 =>
  (tq_is h t 11).bind fun _ =>
  (f_X11_isPath t a1 h).bind fun v4 =>
  (if v4 = 0 then
    some (1 : Int32)
  else
    if p3 = 0 then
      some (2 : Int32)
    else
      (tq_is h t 11).bind fun _ =>
      (f_X11_takesCondition t a1 h).bind fun v6 =>
      if v6 = 0 then
        some (3 : Int32)
      else
        some (0 : Int32)).bind fun p8 =>
  (tq_is h t 11).bind fun _ =>
  (f_X11_refused t p8 h).bind fun v9 =>
  if v9.1 = 0 then
    (tq_is v9.2 t 11).bind fun _ =>
    (f_X11_condition t a1 (0 : Int32) (-1 : Int32) a2 a3 v9.2).bind fun v11 =>
    some (v11.1, v11.2)
  else
    some ((0 : Int32), v9.2)
def f_X11_last (t : Nat) (a1 : Int32) (h : tq_H) : Option (Int32 × tq_H) :=
  (tq_is h t 11).bind fun _ =>
  (f_X11_isPath t a1 h).bind fun v1 =>
  (if v1 = 0 then
    some (1 : Int32)
  else
    (tq_is h t 11).bind fun _ =>
    (f_X11_takesCondition t a1 h).bind fun v3 =>
    if v3 = 0 then
      some (2 : Int32)
    else
      some (0 : Int32)).bind fun p5 =>
  (tq_is h t 11).bind fun _ =>
  (f_X11_refused t p5 h).bind fun v6 =>
  if v6.1 = 0 then
    (tq_is v6.2 t 11).bind fun _ =>
    (f_X11_condition t a1 (1 : Int32) (-1 : Int32) (0 : Int32) (0 : Int32) v6.2).bind fun v8 =>
    some (v8.1, v8.2)
  else
    some ((0 : Int32), v6.2)
def f_X11_has (t : Nat) (a1 : Int32) (a2 : Int32) (a3 : Int32) (h : tq_H) : Option (Int32 × tq_H) :=
  (tq_is h t 11).bind fun _ =>
  (f_X11_isPath t a1 h).bind fun v1 =>
  (if v1 = 0 then
    some (0 : Int32)
  else
    (f_X11_in a2 (0 : Int32) (a1 - (1 : Int32)) h).bind fun v3 =>
    if v3 = 0 then
      some (0 : Int32)
    else
      some (1 : Int32)).bind fun p4 =>
  (if p4 = 0 then
    some (1 : Int32)
  else
    (tq_is h t 11).bind fun _ =>
    (f_X11_takesCondition t a1 h).bind fun v5 =>
    if v5 = 0 then
      some (2 : Int32)
    else
      some (0 : Int32)).bind fun p7 =>
  (tq_is h t 11).bind fun _ =>
  (f_X11_refused t p7 h).bind fun v8 =>
  if v8.1 = 0 then
    tq_let (if a3 = 0 then (3 : Int32) else (2 : Int32)) fun p10 =>
    (tq_is v8.2 t 11).bind fun _ =>
    (f_X11_condition t a1 p10 a2 (0 : Int32) (0 : Int32) v8.2).bind fun v11 =>
    some (v11.1, v11.2)
  else
    some ((0 : Int32), v8.2)
def f_X11_worth (t : Nat) (a1 : Int32) (a2 : Int32) (a3 : Int32) (a4 : Int32) (h : tq_H) : Option (Int32 × tq_H) :=
  (tq_is h t 11).bind fun _ =>
  (f_X11_isPath t a1 h).bind fun v1 =>
  (if v1 = 0 then
    some (0 : Int32)
  else
    (f_X11_in a2 (0 : Int32) (a1 - (1 : Int32)) h).bind fun v3 =>
    if v3 = 0 then
      some (0 : Int32)
    else
      some (1 : Int32)).bind fun p4 =>
  (f_X11_in a3 (0 : Int32) (2 : Int32) h).bind fun v5 =>
  (if v5 = 0 then
    some (0 : Int32)
  else
    (f_X11_in a4 (0 : Int32) (999 : Int32) h).bind fun v6 =>
    if v6 = 0 then
      some (0 : Int32)
    else
      some (1 : Int32)).bind fun p7 =>
  (if p4 = 0 then
    some (1 : Int32)
  else
    if p7 = 0 then
      some (2 : Int32)
    else
      (tq_is h t 11).bind fun _ =>
      (f_X11_takesCondition t a1 h).bind fun v8 =>
      if v8 = 0 then
        some (3 : Int32)
      else
        some (0 : Int32)).bind fun p10 =>
  (tq_is h t 11).bind fun _ =>
  (f_X11_refused t p10 h).bind fun v11 =>
  if v11.1 = 0 then
    (tq_is v11.2 t 11).bind fun _ =>
    (f_X11_condition t a1 (4 : Int32) a2 a3 a4 v11.2).bind fun v13 =>
    some (v13.1, v13.2)
  else
    some ((0 : Int32), v11.2)
def f_X11_paths (t : Nat) (h : tq_H) : Option (Int32 × tq_H) :=
  (tq_gi h t 11 24).bind fun x1 =>
  (tq_is h t 11).bind fun _ =>
  (f_X11_fine t x1 h).bind fun v2 =>
  some (v2.1, v2.2)
def f_X11_readAsReader (t : Nat) (a1 : Int32) (h : tq_H) : Option (Int32 × tq_H) :=
  (tq_pf h t 11 0 (.int (0 : Int32))).bind fun w1 =>
  (tq_gi w1 t 11 32).bind fun x2 =>
  (tq_bz a1).bind fun z4 =>
  (tq_pf w1 t 11 32 (.int z4)).bind fun w3 =>
  (tq_bz x2).bind fun z5 =>
  some (z5, w3)
def f_X11_seen_b12 (i0 : Nat) (hh : tq_H) (s : Int64 × Int32) : Option ((Int64 × Int32) ⊕ (Int64)) := match s with
  | (y1, y3) =>
    (tq_gi hh i0 11 33).bind fun x5 =>
    if y3 ≥ x5 then
      some (.inr y1)
    else
      (tq_gr hh i0 11 29).bind fun k6 =>
      (tq_gr hh i0 11 34).bind fun k7 =>
      (tq_ai hh k7 y3).bind fun x8 =>
      (tq_aj hh k6 ((60 : Int32) * x8)).bind fun x9 =>
      tq_let ((y1 ||| x9)) fun x10 =>
      tq_let (y3 + (1 : Int32)) fun x11 =>
      some (.inl (x10, x11))
def f_X11_seen_b69 (i0 : Nat) (i1 : Int64) (i3 : Int64) (i5 : Int32) (hh : tq_H) (s : Int32 × Int32) : Option ((Int32 × Int32) ⊕ (Int32)) := match s with
  | (y6, y7) =>
    if y7 ≤ 0 then
      some (.inr y6)
    else
      tq_let (if y6 = 0 then (0 : Int32) else (if (lg_cmp ((i1 >>> (y7.toInt64 &&& 63)) &&& (1 : Int64)) (0 : Int64)) = 0 then (1 : Int32) else (0 : Int32))) fun p16 =>
      (tq_gr hh i0 11 6).bind fun k17 =>
      (tq_ai hh k17 y7).bind fun x18 =>
      some (.inl (p16, x18))
def f_X11_seen_b48 (i0 : Nat) (i1 : Int64) (hh : tq_H) (s : Int64 × Int32) : Option ((Int64 × Int32) ⊕ (Int64)) := match s with
  | (y3, y5) =>
    (tq_gi hh i0 11 11).bind fun x13 =>
    if y5 ≥ x13 then
      some (.inr y3)
    else
      (tq_gr hh i0 11 12).bind fun k14 =>
      (tq_ai hh k14 y5).bind fun x15 =>
      (tq_loop (f_X11_seen_b69 i0 i1 y3 y5 hh) tq_N ((1 : Int32), x15)).bind fun o19 =>
      (if o19 = 0 then
        some (0 : Int64)
      else
        (tq_gr hh i0 11 12).bind fun k20 =>
        (tq_ai hh k20 y5).bind fun x21 =>
        some ((1 : Int64) <<< (x21.toInt64 &&& 63))).bind fun p22 =>
      tq_let ((y3 ||| p22)) fun x23 =>
      tq_let (y5 + (1 : Int32)) fun x24 =>
      some (.inl (x23, x24))
def f_X11_seen (t : Nat) (h : tq_H) : Option (Int64 × tq_H) :=
  (tq_is h t 11).bind fun _ =>
  (f_X11_all t h).bind fun v1 =>
  (tq_is h t 11).bind fun _ =>
  (f_X11_findAll t v1 h).bind fun v3 =>
  (tq_loop (f_X11_seen_b12 t v3) tq_N ((0 : Int64), (0 : Int32))).bind fun o12 =>
  (tq_loop (f_X11_seen_b48 t o12 v3) tq_N ((1 : Int64), (0 : Int32))).bind fun o25 =>
  some (o25, v3)
def f_X11_read (t : Nat) (h : tq_H) : Option (tq_H) :=
  (tq_gi h t 11 32).bind fun x1 =>
  (if x1 = 0 then
    (tq_is h t 11).bind fun _ =>
    (f_X11_all t h).bind fun v2 =>
    some (v2, h)
  else
    (tq_is h t 11).bind fun _ =>
    (f_X11_seen t h).bind fun v4 =>
    some (v4.1, v4.2)).bind fun p6 =>
  (tq_is p6.2 t 11).bind fun _ =>
  (f_X11_findAll t p6.1 p6.2).bind fun v7 =>
  some v7
def f_X11_found (t : Nat) (a1 : Int32) (a2 : Int32) (h : tq_H) : Option (Int32 × tq_H) :=
  (tq_is h t 11).bind fun _ =>
  (f_X11_isPath t a1 h).bind fun v1 =>
  (if v1 = 0 then
    some (0 : Int32)
  else
    (tq_is h t 11).bind fun _ =>
    (f_X11_isNode t a2 h).bind fun v3 =>
    if v3 = 0 then
      some (0 : Int32)
    else
      some (1 : Int32)).bind fun p5 =>
  (if p5 = 0 then
    some (p5, h)
  else
    (tq_is h t 11).bind fun _ =>
    (f_X11_read t h).bind fun v6 =>
    (tq_gl v6 t 11 31).bind fun x8 =>
    tq_let (if (lg_cmp ((x8 >>> (a2.toInt64 &&& 63)) &&& (1 : Int64)) (1 : Int64)) = 0 then (1 : Int32) else (0 : Int32)) fun p9 =>
    some (p9, v6)).bind fun p10 =>
  tq_let (if p10.1 = 0 then (1 : Int32) else (0 : Int32)) fun p11 =>
  (tq_is p10.2 t 11).bind fun _ =>
  (f_X11_refused t p11 p10.2).bind fun v12 =>
  (if v12.1 = 0 then
    (tq_gr v12.2 t 11 29).bind fun k14 =>
    (tq_aj v12.2 k14 (((60 : Int32) * a1) + a2)).bind fun x15 =>
    (f_X11_bits x15 v12.2).bind fun v16 =>
    some v16
  else
    some (0 : Int32)).bind fun p17 =>
  some (p17, v12.2)
def f_X11_foundAnew (t : Nat) (a1 : Int32) (a2 : Int32) (h : tq_H) : Option (Int32 × tq_H) :=
  (tq_is h t 11).bind fun _ =>
  (f_X11_found t a1 a2 h).bind fun v1 =>
  some (v1.1, v1.2)
def f_X11_pick_b9 (i0 : Nat) (i1 : Int64) (i3 : Int32) (hh : tq_H) (s : Int32 × Int32 × Int32) : Option ((Int32 × Int32 × Int32) ⊕ (Int32)) := match s with
  | (y4, y5, y6) =>
    (tq_gi hh i0 11 11).bind fun x1 =>
    if y6 ≥ x1 then
      some (.inr y4)
    else
      (tq_gr hh i0 11 12).bind fun k2 =>
      (tq_ai hh k2 y6).bind fun x3 =>
      tq_let (if (lg_cmp ((i1 >>> (x3.toInt64 &&& 63)) &&& (1 : Int64)) (1 : Int64)) = 0 then (1 : Int32) else (0 : Int32)) fun p4 =>
      (if p4 = 0 then
        some y4
      else
        if y5 = i3 then
          (tq_gr hh i0 11 12).bind fun k5 =>
          (tq_ai hh k5 y6).bind fun x6 =>
          some x6
        else
          some y4).bind fun p7 =>
      tq_let (if p4 = 0 then (0 : Int32) else (1 : Int32)) fun p8 =>
      tq_let ((y5 + p8)) fun x9 =>
      tq_let (y6 + (1 : Int32)) fun x10 =>
      some (.inl (p7, x9, x10))
def f_X11_pick (t : Nat) (a1 : Int64) (a3 : Int32) (h : tq_H) : Option (Int32) :=
  (tq_loop (f_X11_pick_b9 t a1 a3 h) tq_N ((-1 : Int32), (0 : Int32), (0 : Int32))).bind fun o11 =>
  some o11
def f_X11_foundBy (t : Nat) (a1 : Int32) (h : tq_H) : Option (Int64 × tq_H) :=
  (tq_is h t 11).bind fun _ =>
  (f_X11_isPath t a1 h).bind fun v1 =>
  if v1 = 0 then
    some ((0 : Int64), h)
  else
    (tq_is h t 11).bind fun _ =>
    (f_X11_read t h).bind fun v3 =>
    (tq_gr v3 t 11 29).bind fun k5 =>
    (tq_aj v3 k5 ((60 : Int32) * a1)).bind fun x6 =>
    some (x6, v3)
def f_X11_foundAt (t : Nat) (a1 : Int32) (a2 : Int32) (h : tq_H) : Option (Int32 × tq_H) :=
  (tq_is h t 11).bind fun _ =>
  (f_X11_foundBy t a1 h).bind fun v1 =>
  (f_X11_bits v1.1 v1.2).bind fun v3 =>
  (f_X11_in a2 (0 : Int32) (v3 - (1 : Int32)) v1.2).bind fun v4 =>
  tq_let (if v4 = 0 then (1 : Int32) else (0 : Int32)) fun p5 =>
  (tq_is v1.2 t 11).bind fun _ =>
  (f_X11_refused t p5 v1.2).bind fun v6 =>
  (if v6.1 = 0 then
    (tq_is v6.2 t 11).bind fun _ =>
    (f_X11_pick t v1.1 a2 v6.2).bind fun v8 =>
    some v8
  else
    some (0 : Int32)).bind fun p10 =>
  some (p10, v6.2)
def f_X11_ordered_b72 (i0 : Nat) (i2 : Int32) (i3 : Int64) (i5 : Int32) (i6 : Int32) (i8 : Int32) (hh : tq_H) (s : Int32 × Int32) : Option ((Int32 × Int32) ⊕ (Int32)) := match s with
  | (y7, y9) =>
    (tq_gi hh i0 11 11).bind fun x14 =>
    if y9 ≥ x14 then
      some (.inr y7)
    else
      (tq_gr hh i0 11 12).bind fun k15 =>
      (tq_ai hh k15 y9).bind fun x16 =>
      (tq_gl hh i0 11 31).bind fun x17 =>
      (tq_is hh i0 11).bind fun _ =>
      (f_X11_valueOf i0 x16 x17 hh).bind fun v18 =>
      (tq_gr hh i0 11 12).bind fun k20 =>
      (tq_ai hh k20 y9).bind fun x21 =>
      tq_let (if (lg_cmp ((i3 >>> (x21.toInt64 &&& 63)) &&& (1 : Int64)) (1 : Int64)) = 0 then (if v18 < i8 then (1 : Int32) else if v18 = i8 then if y9 ≥ i6 then (0 : Int32) else (1 : Int32) else (0 : Int32)) else (0 : Int32)) fun p22 =>
      tq_let ((y7 + p22)) fun x23 =>
      tq_let (y9 + (1 : Int32)) fun x24 =>
      some (.inl (x23, x24))
def f_X11_ordered_b40 (i0 : Nat) (i2 : Int32) (i3 : Int64) (hh : tq_H) (s : Int32 × Int32) : Option ((Int32 × Int32) ⊕ (Int32)) := match s with
  | (y5, y6) =>
    (tq_gi hh i0 11 11).bind fun x8 =>
    if y6 ≥ x8 then
      some (.inr y5)
    else
      (tq_gr hh i0 11 12).bind fun k9 =>
      (tq_ai hh k9 y6).bind fun x10 =>
      (tq_gl hh i0 11 31).bind fun x11 =>
      (tq_is hh i0 11).bind fun _ =>
      (f_X11_valueOf i0 x10 x11 hh).bind fun v12 =>
      (tq_loop (f_X11_ordered_b72 i0 i2 i3 y5 y6 v12 hh) tq_N ((0 : Int32), (0 : Int32))).bind fun o25 =>
      (tq_gr hh i0 11 12).bind fun k26 =>
      (tq_ai hh k26 y6).bind fun x27 =>
      (if (lg_cmp ((i3 >>> (x27.toInt64 &&& 63)) &&& (1 : Int64)) (1 : Int64)) = 0 then
        if o25 = i2 then
          (tq_gr hh i0 11 12).bind fun k28 =>
          (tq_ai hh k28 y6).bind fun x29 =>
          some x29
        else
          some y5
      else
        some y5).bind fun p30 =>
      tq_let (y6 + (1 : Int32)) fun x31 =>
      some (.inl (p30, x31))
def f_X11_ordered (t : Nat) (a1 : Int32) (a2 : Int32) (h : tq_H) : Option (Int32 × tq_H) :=
  (tq_is h t 11).bind fun _ =>
  (f_X11_foundBy t a1 h).bind fun v1 =>
  (f_X11_bits v1.1 v1.2).bind fun v3 =>
  (f_X11_in a2 (0 : Int32) (v3 - (1 : Int32)) v1.2).bind fun v4 =>
  tq_let (if v4 = 0 then (1 : Int32) else (0 : Int32)) fun p5 =>
  (tq_is v1.2 t 11).bind fun _ =>
  (f_X11_refused t p5 v1.2).bind fun v6 =>
  if v6.1 = 0 then
    (tq_loop (f_X11_ordered_b40 t a2 v1.1 v6.2) tq_N ((0 : Int32), (0 : Int32))).bind fun o32 =>
    some (o32, v6.2)
  else
    some ((0 : Int32), v6.2)
def f_X11_groups_b69 (i0 : Nat) (i2 : Int64) (i4 : Int32) (i5 : Int32) (hh : tq_H) (s : Int32 × Int32) : Option ((Int32 × Int32) ⊕ (Int32)) := match s with
  | (y6, y7) =>
    if y7 ≥ i5 then
      some (.inr y6)
    else
      if y6 = 0 then
        some (.inr y6)
      else
        (tq_gr hh i0 11 12).bind fun k12 =>
        (tq_ai hh k12 y7).bind fun x13 =>
        (if (lg_cmp ((i2 >>> (x13.toInt64 &&& 63)) &&& (1 : Int64)) (0 : Int64)) = 0 then
          some (1 : Int32)
        else
          (tq_gr hh i0 11 12).bind fun k14 =>
          (tq_ai hh k14 y7).bind fun x15 =>
          (tq_gl hh i0 11 31).bind fun x16 =>
          (tq_is hh i0 11).bind fun _ =>
          (f_X11_valueOf i0 x15 x16 hh).bind fun v17 =>
          (tq_gr hh i0 11 12).bind fun k19 =>
          (tq_ai hh k19 i5).bind fun x20 =>
          (tq_gl hh i0 11 31).bind fun x21 =>
          (tq_is hh i0 11).bind fun _ =>
          (f_X11_valueOf i0 x20 x21 hh).bind fun v22 =>
          if v17 = v22 then
            some (0 : Int32)
          else
            some (1 : Int32)).bind fun p24 =>
        tq_let (y7 + (1 : Int32)) fun x25 =>
        some (.inl (p24, x25))
def f_X11_groups_b34 (i0 : Nat) (i2 : Int64) (hh : tq_H) (s : Int32 × Int32) : Option ((Int32 × Int32) ⊕ (Int32)) := match s with
  | (y4, y5) =>
    (tq_gi hh i0 11 11).bind fun x8 =>
    if y5 ≥ x8 then
      some (.inr y4)
    else
      (tq_gr hh i0 11 12).bind fun k9 =>
      (tq_ai hh k9 y5).bind fun x10 =>
      tq_let (if (lg_cmp ((i2 >>> (x10.toInt64 &&& 63)) &&& (1 : Int64)) (1 : Int64)) = 0 then (1 : Int32) else (0 : Int32)) fun p11 =>
      (tq_loop (f_X11_groups_b69 i0 i2 y4 y5 hh) tq_N (p11, (0 : Int32))).bind fun o26 =>
      tq_let (if o26 = 0 then (0 : Int32) else (1 : Int32)) fun p27 =>
      tq_let ((y4 + p27)) fun x28 =>
      tq_let (y5 + (1 : Int32)) fun x29 =>
      some (.inl (x28, x29))
def f_X11_groups (t : Nat) (a1 : Int32) (h : tq_H) : Option (Int32 × tq_H) :=
  (tq_is h t 11).bind fun _ =>
  (f_X11_isPath t a1 h).bind fun v1 =>
  tq_let (if v1 = 0 then (1 : Int32) else (0 : Int32)) fun p3 =>
  (tq_is h t 11).bind fun _ =>
  (f_X11_refused t p3 h).bind fun v4 =>
  if v4.1 = 0 then
    (tq_is v4.2 t 11).bind fun _ =>
    (f_X11_foundBy t a1 v4.2).bind fun v6 =>
    (tq_loop (f_X11_groups_b34 t v6.1 v6.2) tq_N ((0 : Int32), (0 : Int32))).bind fun o30 =>
    some (o30, v6.2)
  else
    some ((0 : Int32), v4.2)
def f_X11_isType (a0 : Int32) (h : tq_H) : Option (Int32) :=
  (f_X11_in a0 (0 : Int32) (5 : Int32) h).bind fun v1 =>
  (tq_bz v1).bind fun z2 =>
  some z2
def f_X11_isState (a0 : Int32) (h : tq_H) : Option (Int32) :=
  (f_X11_in a0 (0 : Int32) (3 : Int32) h).bind fun v1 =>
  (tq_bz v1).bind fun z2 =>
  some z2
def f_X11_nameType (t : Nat) (a1 : Int32) (a2 : Int32) (h : tq_H) : Option (Int32 × tq_H) :=
  (f_X11_isType a1 h).bind fun v1 =>
  (if v1 = 0 then
    some (1 : Int32)
  else
    (f_X11_in a2 (-1 : Int32) (7 : Int32) h).bind fun v2 =>
    if v2 = 0 then
      some (2 : Int32)
    else
      (tq_gi h t 11 42).bind fun x3 =>
      if x3 = 0 then
        some (0 : Int32)
      else
        some (3 : Int32)).bind fun p4 =>
  (tq_is h t 11).bind fun _ =>
  (f_X11_refused t p4 h).bind fun v5 =>
  if v5.1 = 0 then
    (tq_gr v5.2 t 11 36).bind fun k7 =>
    (tq_ai v5.2 k7 a1).bind fun x8 =>
    (tq_gr v5.2 t 11 36).bind fun k9 =>
    (tq_si v5.2 k9 a1 a2).bind fun w10 =>
    some (x8, w10)
  else
    some ((0 : Int32), v5.2)
def f_X11_arc (t : Nat) (a1 : Int32) (a2 : Int32) (a3 : Int32) (a4 : Int32) (h : tq_H) : Option (Int32 × tq_H) :=
  (f_X11_isType a1 h).bind fun v1 =>
  (if v1 = 0 then
    some (0 : Int32)
  else
    (f_X11_isState a2 h).bind fun v2 =>
    if v2 = 0 then
      some (0 : Int32)
    else
      (f_X11_isType a3 h).bind fun v3 =>
      if v3 = 0 then
        some (0 : Int32)
      else
        (f_X11_isState a4 h).bind fun v4 =>
        if v4 = 0 then
          some (0 : Int32)
        else
          some (1 : Int32)).bind fun p5 =>
  (if p5 = 0 then
    some (1 : Int32)
  else
    (tq_gi h t 11 42).bind fun x6 =>
    if x6 = 0 then
      some (0 : Int32)
    else
      some (2 : Int32)).bind fun p7 =>
  (tq_is h t 11).bind fun _ =>
  (f_X11_refused t p7 h).bind fun v8 =>
  if v8.1 = 0 then
    tq_let (((((24 : Int32) * a1) + ((6 : Int32) * a2)) + a3)) fun x10 =>
    (tq_gr v8.2 t 11 40).bind fun k11 =>
    (tq_ai v8.2 k11 x10).bind fun x12 =>
    (tq_si v8.2 k11 x10 (x12 ^^^ ((1 : Int32) <<< (a4 &&& 31)))).bind fun w13 =>
    (tq_gr w13 t 11 40).bind fun k14 =>
    (tq_ai w13 k14 x10).bind fun x15 =>
    tq_let (if ((x15 >>> (a4 &&& 31)) &&& (1 : Int32)) = (1 : Int32) then (1 : Int32) else (0 : Int32)) fun p16 =>
    (tq_bz p16).bind fun z17 =>
    some (z17, w13)
  else
    some ((0 : Int32), v8.2)
def f_X11_setFinal (t : Nat) (a1 : Int32) (a2 : Int32) (a3 : Int32) (h : tq_H) : Option (Int32 × tq_H) :=
  (f_X11_isType a1 h).bind fun v1 =>
  (if v1 = 0 then
    some (1 : Int32)
  else
    (f_X11_isState a2 h).bind fun v2 =>
    if v2 = 0 then
      some (1 : Int32)
    else
      (tq_gi h t 11 42).bind fun x3 =>
      if x3 = 0 then
        some (0 : Int32)
      else
        some (2 : Int32)).bind fun p4 =>
  (tq_is h t 11).bind fun _ =>
  (f_X11_refused t p4 h).bind fun v5 =>
  if v5.1 = 0 then
    (tq_gr v5.2 t 11 39).bind fun k7 =>
    (tq_ai v5.2 k7 a1).bind fun x8 =>
    tq_let (if ((x8 >>> (a2 &&& 31)) &&& (1 : Int32)) = (1 : Int32) then (1 : Int32) else (0 : Int32)) fun p9 =>
    (tq_gr v5.2 t 11 39).bind fun k10 =>
    (if a3 = 0 then
      (tq_gr v5.2 t 11 39).bind fun k11 =>
      (tq_ai v5.2 k11 a1).bind fun x12 =>
      some (x12 &&& (((1 : Int32) <<< (a2 &&& 31)) ^^^ (-1 : Int32)))
    else
      (tq_gr v5.2 t 11 39).bind fun k13 =>
      (tq_ai v5.2 k13 a1).bind fun x14 =>
      some (x14 ||| ((1 : Int32) <<< (a2 &&& 31)))).bind fun p15 =>
    (tq_si v5.2 k10 a1 p15).bind fun w16 =>
    (tq_bz p9).bind fun z17 =>
    some (z17, w16)
  else
    some ((0 : Int32), v5.2)
def f_X11_allowTexts (t : Nat) (a1 : Int32) (a2 : Int32) (h : tq_H) : Option (Int32 × tq_H) :=
  (f_X11_isType a1 h).bind fun v1 =>
  (if v1 = 0 then
    some (1 : Int32)
  else
    (tq_gi h t 11 42).bind fun x2 =>
    if x2 = 0 then
      some (0 : Int32)
    else
      some (2 : Int32)).bind fun p3 =>
  (tq_is h t 11).bind fun _ =>
  (f_X11_refused t p3 h).bind fun v4 =>
  if v4.1 = 0 then
    (tq_gr v4.2 t 11 37).bind fun k6 =>
    (tq_az v4.2 k6 a1).bind fun x7 =>
    (tq_gr v4.2 t 11 37).bind fun k8 =>
    (tq_sz v4.2 k8 a1 a2).bind fun w9 =>
    (tq_bz x7).bind fun z10 =>
    some (z10, w9)
  else
    some ((0 : Int32), v4.2)
def f_X11_attribute (t : Nat) (a1 : Int32) (a2 : Int32) (a3 : Int32) (h : tq_H) : Option (Int32 × tq_H) :=
  (f_X11_in a2 (0 : Int32) (7 : Int32) h).bind fun v1 =>
  (if v1 = 0 then
    some (0 : Int32)
  else
    (f_X11_in a3 (0 : Int32) (2 : Int32) h).bind fun v2 =>
    if v2 = 0 then
      some (0 : Int32)
    else
      some (1 : Int32)).bind fun p3 =>
  (f_X11_isType a1 h).bind fun v4 =>
  (if v4 = 0 then
    some (1 : Int32)
  else
    if p3 = 0 then
      some (2 : Int32)
    else
      (tq_gi h t 11 42).bind fun x5 =>
      if x5 = 0 then
        some (0 : Int32)
      else
        some (3 : Int32)).bind fun p6 =>
  (tq_is h t 11).bind fun _ =>
  (f_X11_refused t p6 h).bind fun v7 =>
  if v7.1 = 0 then
    (tq_gr v7.2 t 11 38).bind fun k9 =>
    (tq_ai v7.2 k9 (((8 : Int32) * a1) + a2)).bind fun x10 =>
    (tq_gr v7.2 t 11 38).bind fun k11 =>
    (tq_si v7.2 k11 (((8 : Int32) * a1) + a2) a3).bind fun w12 =>
    some (x10, w12)
  else
    some ((0 : Int32), v7.2)
def f_X11_setStrict (t : Nat) (a1 : Int32) (h : tq_H) : Option (Int32 × tq_H) :=
  (if a1 = 0 then
    some ((0 : Int32), h)
  else
    (tq_is h t 11).bind fun _ =>
    (f_X11_isRight t h).bind fun v1 =>
    if v1.1 = 0 then
      some ((1 : Int32), v1.2)
    else
      some ((0 : Int32), v1.2)).bind fun p3 =>
  (tq_is p3.2 t 11).bind fun _ =>
  (f_X11_refused t p3.1 p3.2).bind fun v4 =>
  if v4.1 = 0 then
    (tq_gi v4.2 t 11 42).bind fun x6 =>
    (tq_bz a1).bind fun z8 =>
    (tq_pf v4.2 t 11 42 (.int z8)).bind fun w7 =>
    (tq_bz x6).bind fun z9 =>
    some (z9, w7)
  else
    some ((0 : Int32), v4.2)
def f_X11_isValid (t : Nat) (h : tq_H) : Option (Int32 × tq_H) :=
  (tq_pf h t 11 0 (.int (0 : Int32))).bind fun w1 =>
  (tq_is w1 t 11).bind fun _ =>
  (f_X11_isRight t w1).bind fun v2 =>
  (tq_bz v2.1).bind fun z4 =>
  some (z4, v2.2)
def f_X11_types (t : Nat) (a1 : Int32) (h : tq_H) : Option (Int32 × tq_H) :=
  (tq_is h t 11).bind fun _ =>
  (f_X11_noNode t a1 h).bind fun v1 =>
  if v1.1 = 0 then
    (tq_is v1.2 t 11).bind fun _ =>
    (f_X11_findTypes t v1.2).bind fun v3 =>
    (tq_gr v3 t 11 41).bind fun k5 =>
    (tq_ai v3 k5 a1).bind fun x6 =>
    some (x6, v3)
  else
    some ((0 : Int32), v1.2)
def f_X11_canHave_b13 (i0 : Nat) (i1 : Int32) (i3 : Int32) (hh : tq_H) (s : Int32 × Int32) : Option ((Int32 × Int32) ⊕ (Int32)) := match s with
  | (y2, y4) =>
    if y4 ≥ (24 : Int32) then
      some (.inr y2)
    else
      if ((i1 >>> (i3 &&& 31)) &&& (1 : Int32)) = (1 : Int32) then
        (tq_gr hh i0 11 40).bind fun k1 =>
        (tq_ai hh k1 (((24 : Int32) * i3) + y4)).bind fun x2 =>
        tq_let (if x2 = 0 then (0 : Int32) else ((1 : Int32) <<< ((y4 - y4 / (6 : Int32) * (6 : Int32)) &&& 31))) fun p3 =>
        tq_let ((y2 ||| p3)) fun x4 =>
        tq_let (y4 + (1 : Int32)) fun x5 =>
        some (.inl (x4, x5))
      else
        some (.inr y2)
def f_X11_canHave_b67 (i0 : Nat) (i1 : Int32) (i3 : Int32) (hh : tq_H) (s : Int32 × Int32) : Option ((Int32 × Int32) ⊕ (Int32)) := match s with
  | (y2, y4) =>
    if y4 ≥ (8 : Int32) then
      some (.inr y2)
    else
      if ((i1 >>> (i3 &&& 31)) &&& (1 : Int32)) = (1 : Int32) then
        (tq_gr hh i0 11 38).bind fun k7 =>
        (tq_ai hh k7 (((8 : Int32) * i3) + y4)).bind fun x8 =>
        tq_let (if x8 = 0 then (0 : Int32) else (128 : Int32)) fun p9 =>
        tq_let ((y2 ||| p9)) fun x10 =>
        tq_let (y4 + (1 : Int32)) fun x11 =>
        some (.inl (x10, x11))
      else
        some (.inr y2)
def f_X11_canHave_b4 (i0 : Nat) (i1 : Int32) (hh : tq_H) (s : Int32 × Int32) : Option ((Int32 × Int32) ⊕ (Int32)) := match s with
  | (y2, y3) =>
    if y3 ≥ (6 : Int32) then
      some (.inr y2)
    else
      (tq_loop (f_X11_canHave_b13 i0 i1 y3 hh) tq_N (y2, (0 : Int32))).bind fun o6 =>
      (tq_loop (f_X11_canHave_b67 i0 i1 y3 hh) tq_N (o6, (0 : Int32))).bind fun o12 =>
      (if ((i1 >>> (y3 &&& 31)) &&& (1 : Int32)) = (1 : Int32) then
        (tq_gr hh i0 11 37).bind fun k13 =>
        (tq_az hh k13 y3).bind fun x14 =>
        if x14 = 0 then
          some (0 : Int32)
        else
          some (64 : Int32)
      else
        some (0 : Int32)).bind fun p15 =>
      tq_let ((o12 ||| p15)) fun x16 =>
      tq_let (y3 + (1 : Int32)) fun x17 =>
      some (.inl (x16, x17))
def f_X11_canHave (t : Nat) (a1 : Int32) (h : tq_H) : Option (Int32) :=
  (tq_loop (f_X11_canHave_b4 t a1 h) tq_N ((0 : Int32), (0 : Int32))).bind fun o18 =>
  some o18
def f_X11_allTypes_b4 (i0 : Nat) (hh : tq_H) (s : Int32 × Int32) : Option ((Int32 × Int32) ⊕ (Int32)) := match s with
  | (y1, y2) =>
    if y2 > (6 : Int32) then
      some (.inr y1)
    else
      (tq_is hh i0 11).bind fun _ =>
      (f_X11_canHave i0 y1 hh).bind fun v1 =>
      tq_let ((y1 ||| v1)) fun x3 =>
      tq_let (y2 + (1 : Int32)) fun x4 =>
      some (.inl (x3, x4))
def f_X11_allTypes (t : Nat) (h : tq_H) : Option (Int32) :=
  (tq_loop (f_X11_allTypes_b4 t h) tq_N ((1 : Int32), (0 : Int32))).bind fun o5 =>
  some o5
def f_X11_childrenOf (t : Nat) (a1 : Int32) (h : tq_H) : Option (Int32) :=
  (tq_is h t 11).bind fun _ =>
  (f_X11_canHave t a1 h).bind fun v1 =>
  some (v1 &&& (-129 : Int32))
def f_X11_parentsOf_b5 (i0 : Nat) (i1 : Int32) (i2 : Int32) (hh : tq_H) (s : Int32 × Int32) : Option ((Int32 × Int32) ⊕ (Int32)) := match s with
  | (y3, y4) =>
    if y4 ≥ (6 : Int32) then
      some (.inr y3)
    else
      (if ((i2 >>> (y4 &&& 31)) &&& (1 : Int32)) = (1 : Int32) then
        (tq_is hh i0 11).bind fun _ =>
        (f_X11_canHave i0 ((1 : Int32) <<< (y4 &&& 31)) hh).bind fun v1 =>
        if (v1 &&& i1) = 0 then
          some (0 : Int32)
        else
          some ((1 : Int32) <<< (y4 &&& 31))
      else
        some (0 : Int32)).bind fun p3 =>
      tq_let ((y3 ||| p3)) fun x4 =>
      tq_let (y4 + (1 : Int32)) fun x5 =>
      some (.inl (x4, x5))
def f_X11_parentsOf (t : Nat) (a1 : Int32) (a2 : Int32) (h : tq_H) : Option (Int32) :=
  (tq_loop (f_X11_parentsOf_b5 t a1 a2 h) tq_N ((0 : Int32), (0 : Int32))).bind fun o6 =>
  some o6
def f_X11_cameBy_b102 (i0 : Nat) (i1 : Int32) (i4 : Int32) (hh : tq_H) (s : Int32 × Int32 × Int32) : Option ((Int32 × Int32 × Int32) ⊕ (Int32)) := match s with
  | (y5, y6, y7) =>
    if y6 ≥ (9 : Int32) then
      some (.inr y5)
    else
      (tq_is hh i0 11).bind fun _ =>
      (f_X11_childrenOf i0 y7 hh).bind fun v6 =>
      tq_let ((y5 ||| v6)) fun x8 =>
      tq_let (y6 + (1 : Int32)) fun x9 =>
      some (.inl (x8, x9, x8))
def f_X11_cameBy_b102_2 (i0 : Nat) (i1 : Int32) (i4 : Int32) (hh : tq_H) (s : Int32 × Int32 × Int32) : Option ((Int32 × Int32 × Int32) ⊕ (Int32)) := match s with
  | (y5, y6, y7) =>
    if y6 ≥ (9 : Int32) then
      some (.inr y5)
    else
      (tq_is hh i0 11).bind fun _ =>
      (f_X11_childrenOf i0 y7 hh).bind fun v13 =>
      tq_let ((y5 ||| v13)) fun x15 =>
      tq_let (y6 + (1 : Int32)) fun x16 =>
      some (.inl (x15, x16, x15))
def f_X11_cameBy_b167 (i0 : Nat) (i4 : Int32) (hh : tq_H) (s : Int32 × Int32 × Int32) : Option ((Int32 × Int32 × Int32) ⊕ (Int32)) := match s with
  | (y5, y6, y7) =>
    if y6 ≥ (9 : Int32) then
      some (.inr y5)
    else
      (tq_is hh i0 11).bind fun _ =>
      (f_X11_parentsOf i0 y7 i4 hh).bind fun v20 =>
      tq_let ((y5 ||| v20)) fun x22 =>
      tq_let (y6 + (1 : Int32)) fun x23 =>
      some (.inl (x22, x23, x22))
def f_X11_cameBy_b167_2 (i0 : Nat) (i4 : Int32) (hh : tq_H) (s : Int32 × Int32 × Int32) : Option ((Int32 × Int32 × Int32) ⊕ (Int32)) := match s with
  | (y5, y6, y7) =>
    if y6 ≥ (9 : Int32) then
      some (.inr y5)
    else
      (tq_is hh i0 11).bind fun _ =>
      (f_X11_parentsOf i0 y7 i4 hh).bind fun v26 =>
      tq_let ((y5 ||| v26)) fun x28 =>
      tq_let (y6 + (1 : Int32)) fun x29 =>
      some (.inl (x28, x29, x28))
def f_X11_cameBy_b247 (i0 : Nat) (i2 : Int32) (hh : tq_H) (s : Int32 × Int32 × Int32) : Option ((Int32 × Int32 × Int32) ⊕ (Int32)) := match s with
  | (y5, y6, y7) =>
    if y6 ≥ (256 : Int32) then
      some (.inr y5)
    else
      (tq_gr hh i0 11 43).bind fun k43 =>
      (tq_ai hh k43 (((256 : Int32) * i2) + y7)).bind fun x44 =>
      tq_let ((y5 ||| x44)) fun x45 =>
      tq_let (y6 + (1 : Int32)) fun x46 =>
      some (.inl (x45, x46, x44))
def f_X11_cameBy (t : Nat) (a1 : Int32) (a2 : Int32) (a3 : Int32) (a4 : Int32) (h : tq_H) : Option (Int32) :=
  if a1 = (0 : Int32) then
    some a3
  else
  if a1 = (1 : Int32) then
    (tq_is h t 11).bind fun _ =>
    (f_X11_childrenOf t a3 h).bind fun v1 =>
    some v1
  else
  if a1 = (2 : Int32) then
    (tq_is h t 11).bind fun _ =>
    (f_X11_parentsOf t a3 a4 h).bind fun v3 =>
    some v3
  else
  if a1 = (3 : Int32) then
    tq_let (if a1 = (3 : Int32) then (0 : Int32) else a3) fun p5 =>
    (tq_loop (f_X11_cameBy_b102 t a1 a4 h) tq_N (p5, (0 : Int32), a3)).bind fun o10 =>
    tq_let (if a1 = (3 : Int32) then a4 else (-1 : Int32)) fun p11 =>
    some (o10 &&& p11)
  else
  if a1 = (4 : Int32) then
    tq_let (if a1 = (3 : Int32) then (0 : Int32) else a3) fun p12 =>
    (tq_loop (f_X11_cameBy_b102_2 t a1 a4 h) tq_N (p12, (0 : Int32), a3)).bind fun o17 =>
    tq_let (if a1 = (3 : Int32) then a4 else (-1 : Int32)) fun p18 =>
    some (o17 &&& p18)
  else
  if a1 = (5 : Int32) then
    tq_let (if a1 = (5 : Int32) then (0 : Int32) else a3) fun p19 =>
    (tq_loop (f_X11_cameBy_b167 t a4 h) tq_N (p19, (0 : Int32), a3)).bind fun o24 =>
    some o24
  else
  if a1 = (6 : Int32) then
    tq_let (if a1 = (5 : Int32) then (0 : Int32) else a3) fun p25 =>
    (tq_loop (f_X11_cameBy_b167_2 t a4 h) tq_N (p25, (0 : Int32), a3)).bind fun o30 =>
    some o30
  else
  if a1 = (7 : Int32) then
    tq_let (if a3 = 0 then (0 : Int32) else (a4 &&& (-129 : Int32))) fun p31 =>
    some p31
  else
  if a1 = (8 : Int32) then
    tq_let (if a3 = 0 then (0 : Int32) else (a4 &&& (-129 : Int32))) fun p32 =>
    some p32
  else
  if a1 = (9 : Int32) then
    (tq_is h t 11).bind fun _ =>
    (f_X11_parentsOf t a3 a4 h).bind fun v33 =>
    (tq_is h t 11).bind fun _ =>
    (f_X11_childrenOf t v33 h).bind fun v35 =>
    some v35
  else
  if a1 = (10 : Int32) then
    (tq_is h t 11).bind fun _ =>
    (f_X11_parentsOf t a3 a4 h).bind fun v37 =>
    (tq_is h t 11).bind fun _ =>
    (f_X11_childrenOf t v37 h).bind fun v39 =>
    some v39
  else
  if a1 = (11 : Int32) then
    (tq_is h t 11).bind fun _ =>
    (f_X11_canHave t a3 h).bind fun v41 =>
    some (v41 &&& (128 : Int32))
  else
    (tq_loop (f_X11_cameBy_b247 t a2 h) tq_N ((0 : Int32), (0 : Int32), a3)).bind fun o47 =>
    some o47
def f_X11_left_b5 (i0 : Nat) (i1 : Int32) (i2 : Int32) (hh : tq_H) (s : Int32 × Int32) : Option ((Int32 × Int32) ⊕ (Int32)) := match s with
  | (y3, y4) =>
    if y4 ≥ (6 : Int32) then
      some (.inr y3)
    else
      (if i1 ≥ (8 : Int32) then
        some ((1 : Int32) <<< (y4 &&& 31))
      else
        (tq_gr hh i0 11 36).bind fun k1 =>
        (tq_ai hh k1 y4).bind fun x2 =>
        if x2 = i1 then
          some ((1 : Int32) <<< (y4 &&& 31))
        else
          some (0 : Int32)).bind fun p3 =>
      tq_let ((y3 ||| p3)) fun x4 =>
      tq_let (y4 + (1 : Int32)) fun x5 =>
      some (.inl (x4, x5))
def f_X11_left (t : Nat) (a1 : Int32) (a2 : Int32) (h : tq_H) : Option (Int32) :=
  (tq_loop (f_X11_left_b5 t a1 a2 h) tq_N ((0 : Int32), (0 : Int32))).bind fun o6 =>
  tq_let (if a1 ≥ (8 : Int32) then (if a1 = (8 : Int32) then a2 else if a1 = (9 : Int32) then (a2 &&& (64 : Int32)) else (a2 &&& o6)) else (a2 &&& (o6 ||| (128 : Int32)))) fun p7 =>
  some p7
def f_X11_infer_b54 (i0 : Nat) (i1 : Int32) (i2 : Int32) (i3 : Int32) (i4 : Int32) (hh : tq_H) (s : Int32 × Int32) : Option ((Int32 × Int32) ⊕ (Int32)) := match s with
  | (y5, y6) =>
    (tq_gr hh i0 11 25).bind fun k9 =>
    (tq_ai hh k9 i3).bind fun x10 =>
    if y6 ≥ (((5 : Int32) * i3) + x10) then
      some (.inr y5)
    else
      (tq_gr hh i0 11 26).bind fun k11 =>
      (tq_ai hh k11 (((3 : Int32) * y6) + (1 : Int32))).bind fun x12 =>
      (tq_gr hh i0 11 26).bind fun k13 =>
      (tq_ai hh k13 ((3 : Int32) * y6)).bind fun x14 =>
      (tq_gr hh i0 11 26).bind fun k15 =>
      (tq_ai hh k15 (((3 : Int32) * y6) + (2 : Int32))).bind fun x16 =>
      (tq_is hh i0 11).bind fun _ =>
      (f_X11_cameBy i0 x14 x16 y5 i2 hh).bind fun v17 =>
      (tq_is hh i0 11).bind fun _ =>
      (f_X11_left i0 x12 (v17 &&& i2) hh).bind fun v19 =>
      tq_let (y6 + (1 : Int32)) fun x21 =>
      some (.inl (v19, x21))
def f_X11_infer_b37 (i0 : Nat) (i1 : Int32) (i2 : Int32) (i3 : Int32) (s : Int32 × tq_H) : Option ((Int32 × tq_H) ⊕ (tq_H)) := match s with
  | (y4, hh) =>
    if y4 ≥ (256 : Int32) then
      some (.inr hh)
    else
      tq_let (((5 : Int32) * i3)) fun x8 =>
      (tq_loop (f_X11_infer_b54 i0 i1 i2 i3 y4 hh) tq_N (y4, x8)).bind fun o22 =>
      (tq_gr hh i0 11 43).bind fun k23 =>
      (tq_si hh k23 (((256 : Int32) * i3) + y4) o22).bind fun w24 =>
      tq_let (y4 + (1 : Int32)) fun x25 =>
      some (.inl (x25, w24))
def f_X11_infer_b29 (i0 : Nat) (i1 : Int32) (i2 : Int32) (s : Int32 × tq_H) : Option ((Int32 × tq_H) ⊕ (tq_H)) := match s with
  | (y3, hh) =>
    if y3 > i1 then
      some (.inr hh)
    else
      (tq_loop (f_X11_infer_b37 i0 i1 i2 y3) tq_N ((0 : Int32), hh)).bind fun o26 =>
      tq_let (y3 + (1 : Int32)) fun x27 =>
      some (.inl (x27, o26))
def f_X11_infer (t : Nat) (a1 : Int32) (h : tq_H) : Option (Int32 × tq_H) :=
  (tq_is h t 11).bind fun _ =>
  (f_X11_isPath t a1 h).bind fun v1 =>
  tq_let (if v1 = 0 then (1 : Int32) else (0 : Int32)) fun p3 =>
  (tq_is h t 11).bind fun _ =>
  (f_X11_refused t p3 h).bind fun v4 =>
  if v4.1 = 0 then
    (tq_is v4.2 t 11).bind fun _ =>
    (f_X11_allTypes t v4.2).bind fun v6 =>
    (tq_loop (f_X11_infer_b29 t a1 v6) tq_N ((0 : Int32), v4.2)).bind fun o28 =>
    (tq_gr o28 t 11 43).bind fun k29 =>
    (tq_ai o28 k29 (((256 : Int32) * a1) + (1 : Int32))).bind fun x30 =>
    some (x30, o28)
  else
    some ((0 : Int32), v4.2)
def f_X11_index (t : Nat) (a1 : Int32) (h : tq_H) : Option (Int32 × tq_H) :=
  (f_X11_in a1 (0 : Int32) (7 : Int32) h).bind fun v1 =>
  tq_let (if v1 = 0 then (1 : Int32) else (0 : Int32)) fun p2 =>
  (tq_is h t 11).bind fun _ =>
  (f_X11_refused t p2 h).bind fun v3 =>
  if v3.1 = 0 then
    (tq_gr v3.2 t 11 44).bind fun k5 =>
    (tq_gr v3.2 t 11 44).bind fun k6 =>
    (tq_az v3.2 k6 a1).bind fun x7 =>
    tq_let (if x7 = 0 then (1 : Int32) else (0 : Int32)) fun p8 =>
    (tq_sz v3.2 k5 a1 p8).bind fun w9 =>
    (tq_gr w9 t 11 44).bind fun k10 =>
    (tq_az w9 k10 a1).bind fun x11 =>
    (tq_bz x11).bind fun z12 =>
    some (z12, w9)
  else
    some ((0 : Int32), v3.2)
def f_X11_isNear_b6 (i0 : Nat) (i1 : Int32) (hh : tq_H) (s : Int32 × Int32) : Option ((Int32 × Int32) ⊕ (Int32)) := match s with
  | (y2, y3) =>
    (tq_gr hh i0 11 25).bind fun k2 =>
    (tq_ai hh k2 i1).bind fun x3 =>
    if y3 ≥ (((5 : Int32) * i1) + x3) then
      some (.inr y2)
    else
      (if y2 = 0 then
        some (0 : Int32)
      else
        (tq_gr hh i0 11 26).bind fun k4 =>
        (tq_ai hh k4 ((3 : Int32) * y3)).bind fun x5 =>
        if x5 = 0 then
          (tq_gr hh i0 11 27).bind fun k6 =>
          (tq_ai hh k6 y3).bind fun x7 =>
          if x7 = 0 then
            some (1 : Int32)
          else
            some (0 : Int32)
        else
          (tq_gr hh i0 11 26).bind fun k8 =>
          (tq_ai hh k8 ((3 : Int32) * y3)).bind fun x9 =>
          if x9 = (11 : Int32) then
            (tq_gr hh i0 11 27).bind fun k10 =>
            (tq_ai hh k10 y3).bind fun x11 =>
            if x11 = 0 then
              some (1 : Int32)
            else
              some (0 : Int32)
          else
            some (0 : Int32)).bind fun p12 =>
      tq_let (y3 + (1 : Int32)) fun x13 =>
      some (.inl (p12, x13))
def f_X11_isNear (t : Nat) (a1 : Int32) (h : tq_H) : Option (Int32) :=
  tq_let (((5 : Int32) * a1)) fun x1 =>
  (tq_loop (f_X11_isNear_b6 t a1 h) tq_N ((1 : Int32), x1)).bind fun o14 =>
  (tq_bz o14).bind fun z15 =>
  some z15
def f_X11_isStreamed_b73 (i0 : Nat) (i1 : Int32) (i3 : Int32) (hh : tq_H) (s : Int32 × Int32) : Option ((Int32 × Int32) ⊕ (Int32)) := match s with
  | (y2, y5) =>
    (tq_gr hh i0 11 27).bind fun k7 =>
    (tq_ai hh k7 i3).bind fun x8 =>
    if y5 ≥ x8 then
      some (.inr y2)
    else
      tq_let (((4 : Int32) * (((2 : Int32) * i3) + y5))) fun x9 =>
      (if y2 = 0 then
        some (0 : Int32)
      else
        (tq_gr hh i0 11 28).bind fun k10 =>
        (tq_ai hh k10 x9).bind fun x11 =>
        if x11 = 0 then
          (tq_gr hh i0 11 28).bind fun k18 =>
          (tq_ai hh k18 (x9 + (2 : Int32))).bind fun x19 =>
          if x19 = (2 : Int32) then
            some (0 : Int32)
          else
            some (1 : Int32)
        else
          (tq_gr hh i0 11 28).bind fun k12 =>
          (tq_ai hh k12 x9).bind fun x13 =>
          if x13 = (1 : Int32) then
            some (0 : Int32)
          else
            (tq_gr hh i0 11 28).bind fun k14 =>
            (tq_ai hh k14 (x9 + (1 : Int32))).bind fun x15 =>
            (tq_is hh i0 11).bind fun _ =>
            (f_X11_isNear i0 x15 hh).bind fun v16 =>
            if v16 = 0 then
              some (0 : Int32)
            else
              some (1 : Int32)).bind fun p20 =>
      tq_let (y5 + (1 : Int32)) fun x21 =>
      some (.inl (p20, x21))
def f_X11_isStreamed_b6 (i0 : Nat) (i1 : Int32) (hh : tq_H) (s : Int32 × Int32) : Option ((Int32 × Int32) ⊕ (Int32)) := match s with
  | (y2, y3) =>
    (tq_gr hh i0 11 25).bind fun k2 =>
    (tq_ai hh k2 i1).bind fun x3 =>
    if y3 ≥ (((5 : Int32) * i1) + x3) then
      some (.inr y2)
    else
      (tq_gr hh i0 11 26).bind fun k4 =>
      (tq_ai hh k4 ((3 : Int32) * y3)).bind fun x5 =>
      tq_let (if y2 = 0 then (0 : Int32) else (if x5 = 0 then (1 : Int32) else if x5 = (1 : Int32) then (1 : Int32) else if x5 = (3 : Int32) then (1 : Int32) else if x5 = (4 : Int32) then (1 : Int32) else if x5 = (11 : Int32) then (1 : Int32) else (0 : Int32))) fun p6 =>
      (tq_loop (f_X11_isStreamed_b73 i0 i1 y3 hh) tq_N (p6, (0 : Int32))).bind fun o22 =>
      tq_let (y3 + (1 : Int32)) fun x23 =>
      some (.inl (o22, x23))
def f_X11_isStreamed (t : Nat) (a1 : Int32) (h : tq_H) : Option (Int32) :=
  tq_let (((5 : Int32) * a1)) fun x1 =>
  (tq_loop (f_X11_isStreamed_b6 t a1 h) tq_N ((1 : Int32), x1)).bind fun o24 =>
  (tq_bz o24).bind fun z25 =>
  some z25
def f_X11_plan_b69 (i0 : Nat) (i1 : Int32) (i2 : Int32) (hh : tq_H) (s : Int32 × Int32 × Int32) : Option ((Int32 × Int32 × Int32) ⊕ (Int32 × Int32)) := match s with
  | (y3, y4, y5) =>
    (tq_gi hh i0 11 11).bind fun x13 =>
    if y5 ≥ x13 then
      some (.inr (y3, y4))
    else
      (tq_gr hh i0 11 2).bind fun k14 =>
      (tq_gr hh i0 11 12).bind fun k15 =>
      (tq_ai hh k15 y5).bind fun x16 =>
      (tq_ai hh k14 x16).bind fun x17 =>
      tq_let (if x17 = (2 : Int32) then (0 : Int32) else (1 : Int32)) fun p18 =>
      tq_let ((y3 + p18)) fun x19 =>
      (tq_gr hh i0 11 2).bind fun k20 =>
      (tq_gr hh i0 11 12).bind fun k21 =>
      (tq_ai hh k21 y5).bind fun x22 =>
      (tq_ai hh k20 x22).bind fun x23 =>
      (if x23 = 0 then
        (tq_gr hh i0 11 3).bind fun k24 =>
        (tq_gr hh i0 11 12).bind fun k25 =>
        (tq_ai hh k25 y5).bind fun x26 =>
        (tq_ai hh k24 x26).bind fun x27 =>
        if x27 = i2 then
          some (1 : Int32)
        else
          some (0 : Int32)
      else
        some (0 : Int32)).bind fun p28 =>
      tq_let ((y4 + p28)) fun x29 =>
      tq_let (y5 + (1 : Int32)) fun x30 =>
      some (.inl (x19, x29, x30))
def f_X11_plan (t : Nat) (a1 : Int32) (h : tq_H) : Option (Int32 × tq_H) :=
  (tq_is h t 11).bind fun _ =>
  (f_X11_isPath t a1 h).bind fun v1 =>
  tq_let (if v1 = 0 then (1 : Int32) else (0 : Int32)) fun p3 =>
  (tq_is h t 11).bind fun _ =>
  (f_X11_refused t p3 h).bind fun v4 =>
  if v4.1 = 0 then
    (tq_gr v4.2 t 11 25).bind fun k6 =>
    (tq_ai v4.2 k6 a1).bind fun x7 =>
    (if x7 ≤ 0 then
      some (8 : Int32)
    else
      (tq_gr v4.2 t 11 26).bind fun k8 =>
      (tq_ai v4.2 k8 ((15 : Int32) * a1)).bind fun x9 =>
      if x9 = (3 : Int32) then
        (tq_gr v4.2 t 11 26).bind fun k10 =>
        (tq_ai v4.2 k10 (((15 : Int32) * a1) + (1 : Int32))).bind fun x11 =>
        some x11
      else
        some (8 : Int32)).bind fun p12 =>
    (tq_loop (f_X11_plan_b69 t a1 p12 v4.2) tq_N ((0 : Int32), (0 : Int32), (0 : Int32))).bind fun o31 =>
    if p12 ≥ (8 : Int32) then
      (tq_is v4.2 t 11).bind fun _ =>
      (f_X11_isStreamed t a1 v4.2).bind fun v32 =>
      tq_let (if v32 = 0 then (0 : Int32) else (2 : Int32)) fun p34 =>
      some ((((1000 : Int32) * p34) + o31.1), v4.2)
    else
      (tq_gr v4.2 t 11 44).bind fun k35 =>
      (tq_az v4.2 k35 p12).bind fun x36 =>
      if x36 = 0 then
        (tq_is v4.2 t 11).bind fun _ =>
        (f_X11_isStreamed t a1 v4.2).bind fun v37 =>
        tq_let (if v37 = 0 then (0 : Int32) else (2 : Int32)) fun p39 =>
        some ((((1000 : Int32) * p39) + o31.1), v4.2)
      else
        if o31.2 ≥ o31.1 then
          (tq_is v4.2 t 11).bind fun _ =>
          (f_X11_isStreamed t a1 v4.2).bind fun v40 =>
          tq_let (if v40 = 0 then (0 : Int32) else (2 : Int32)) fun p42 =>
          some ((((1000 : Int32) * p42) + o31.1), v4.2)
        else
          some (((1000 : Int32) + o31.2), v4.2)
  else
    some ((0 : Int32), v4.2)
def f_X11_view (t : Nat) (a1 : Int32) (h : tq_H) : Option (Int32 × tq_H) :=
  (tq_is h t 11).bind fun _ =>
  (f_X11_isPath t a1 h).bind fun v1 =>
  (if v1 = 0 then
    some (1 : Int32)
  else
    (tq_gi h t 11 45).bind fun x3 =>
    if x3 = (5 : Int32) then
      some (2 : Int32)
    else
      some (0 : Int32)).bind fun p4 =>
  (tq_is h t 11).bind fun _ =>
  (f_X11_refused t p4 h).bind fun v5 =>
  if v5.1 = 0 then
    (tq_gr v5.2 t 11 46).bind fun k7 =>
    (tq_gi v5.2 t 11 45).bind fun x8 =>
    (tq_si v5.2 k7 x8 a1).bind fun w9 =>
    (tq_gr w9 t 11 47).bind fun k10 =>
    (tq_gi w9 t 11 45).bind fun x11 =>
    (tq_si w9 k10 x11 (0 : Int32)).bind fun w12 =>
    (tq_is w12 t 11).bind fun _ =>
    (f_X11_all t w12).bind fun v13 =>
    (tq_is w12 t 11).bind fun _ =>
    (f_X11_findAll t v13 w12).bind fun v15 =>
    (tq_gr v15 t 11 48).bind fun k17 =>
    (tq_gi v15 t 11 45).bind fun x18 =>
    (tq_gr v15 t 11 29).bind fun k19 =>
    (tq_aj v15 k19 ((60 : Int32) * a1)).bind fun x20 =>
    (tq_sl v15 k17 x18 x20).bind fun w21 =>
    (tq_gi w21 t 11 45).bind fun x22 =>
    (tq_pf w21 t 11 45 (.int ((x22 + (1 : Int32))))).bind fun w23 =>
    (tq_gi w23 t 11 45).bind fun x24 =>
    some ((x24 - (1 : Int32)), w23)
  else
    some ((0 : Int32), v5.2)
def f_X11_viewed (t : Nat) (a1 : Int32) (a2 : Int32) (h : tq_H) : Option (Int32 × tq_H) :=
  (tq_gi h t 11 45).bind fun x1 =>
  (f_X11_in a1 (0 : Int32) (x1 - (1 : Int32)) h).bind fun v2 =>
  tq_let (if v2 = 0 then (0 : Int32) else (if a2 < 0 then (0 : Int32) else (1 : Int32))) fun p3 =>
  tq_let (if p3 = 0 then (1 : Int32) else (0 : Int32)) fun p4 =>
  (tq_is h t 11).bind fun _ =>
  (f_X11_refused t p4 h).bind fun v5 =>
  (if v5.1 = 0 then
    (tq_gr v5.2 t 11 48).bind fun k7 =>
    (tq_aj v5.2 k7 a1).bind fun x8 =>
    (tq_is v5.2 t 11).bind fun _ =>
    (f_X11_pick t x8 a2 v5.2).bind fun v9 =>
    some v9
  else
    some (0 : Int32)).bind fun p11 =>
  some (p11, v5.2)
def f_X11_changed (t : Nat) (a1 : Int32) (h : tq_H) : Option (Int32 × tq_H) :=
  (tq_gi h t 11 45).bind fun x1 =>
  (f_X11_in a1 (0 : Int32) (x1 - (1 : Int32)) h).bind fun v2 =>
  tq_let (if v2 = 0 then (1 : Int32) else (0 : Int32)) fun p3 =>
  (tq_is h t 11).bind fun _ =>
  (f_X11_refused t p3 h).bind fun v4 =>
  (if v4.1 = 0 then
    (tq_gr v4.2 t 11 47).bind fun k6 =>
    (tq_ai v4.2 k6 a1).bind fun x7 =>
    some x7
  else
    some (0 : Int32)).bind fun p8 =>
  some (p8, v4.2)
def f_X11_textsBelow_b5 (i0 : Nat) (i1 : Int32) (i2 : Int32) (hh : tq_H) (s : Int32 × Int32) : Option ((Int32 × Int32) ⊕ (Int32)) := match s with
  | (y3, y4) =>
    (tq_gi hh i0 11 11).bind fun x1 =>
    if y4 ≥ x1 then
      some (.inr y3)
    else
      (tq_gr hh i0 11 12).bind fun k2 =>
      (tq_ai hh k2 y4).bind fun x3 =>
      (tq_gr hh i0 11 2).bind fun k4 =>
      (tq_ai hh k4 x3).bind fun x5 =>
      (if x5 = (1 : Int32) then
        (tq_is hh i0 11).bind fun _ =>
        (f_X11_isBelow i0 x3 i1 hh).bind fun v6 =>
        if v6 = 0 then
          some (0 : Int32)
        else
          if i2 = (-1 : Int32) then
            some (1 : Int32)
          else
            (tq_gr hh i0 11 4).bind fun k8 =>
            (tq_ai hh k8 x3).bind fun x9 =>
            if x9 = i2 then
              some (1 : Int32)
            else
              some (0 : Int32)
      else
        some (0 : Int32)).bind fun p10 =>
      tq_let ((y3 + p10)) fun x11 =>
      tq_let (y4 + (1 : Int32)) fun x12 =>
      some (.inl (x11, x12))
def f_X11_textsBelow (t : Nat) (a1 : Int32) (a2 : Int32) (h : tq_H) : Option (Int32) :=
  (tq_loop (f_X11_textsBelow_b5 t a1 a2 h) tq_N ((0 : Int32), (0 : Int32))).bind fun o13 =>
  some o13
def f_X11_ranked_b100 (i0 : Nat) (i1 : Int32) (i2 : Int32) (i3 : Int32) (i4 : Int32) (i5 : Int32) (i6 : Int32) (hh : tq_H) (s : Int32 × Int32) : Option ((Int32 × Int32) ⊕ (Int32)) := match s with
  | (y7, y8) =>
    (tq_gi hh i0 11 11).bind fun x19 =>
    if y8 ≥ x19 then
      some (.inr y7)
    else
      if i5 ≤ 0 then
        some (.inr y7)
      else
        (tq_gr hh i0 11 2).bind fun k20 =>
        (tq_gr hh i0 11 12).bind fun k21 =>
        (tq_ai hh k21 y8).bind fun x22 =>
        (tq_ai hh k20 x22).bind fun x23 =>
        (if x23 = 0 then
          (tq_gr hh i0 11 12).bind fun k24 =>
          (tq_ai hh k24 y8).bind fun x25 =>
          (tq_is hh i0 11).bind fun _ =>
          (f_X11_textsBelow i0 x25 i1 hh).bind fun v26 =>
          some v26
        else
          some (0 : Int32)).bind fun p28 =>
        (tq_gr hh i0 11 12).bind fun k29 =>
        (tq_ai hh k29 y8).bind fun x30 =>
        (tq_is hh i0 11).bind fun _ =>
        (f_X11_textsBelow i0 x30 (-1 : Int32) hh).bind fun v31 =>
        tq_let (if (p28 * i6) > (i5 * v31) then (1 : Int32) else (if p28 ≤ 0 then (0 : Int32) else if (p28 * i6) = (i5 * v31) then if y8 ≥ i4 then (0 : Int32) else (1 : Int32) else (0 : Int32))) fun p33 =>
        tq_let ((y7 + p33)) fun x34 =>
        tq_let (y8 + (1 : Int32)) fun x35 =>
        some (.inl (x34, x35))
def f_X11_ranked_b38 (i0 : Nat) (i1 : Int32) (i2 : Int32) (hh : tq_H) (s : Int32 × Int32) : Option ((Int32 × Int32) ⊕ (Int32)) := match s with
  | (y3, y4) =>
    (tq_gi hh i0 11 11).bind fun x5 =>
    if y4 ≥ x5 then
      some (.inr y3)
    else
      (tq_gr hh i0 11 2).bind fun k6 =>
      (tq_gr hh i0 11 12).bind fun k7 =>
      (tq_ai hh k7 y4).bind fun x8 =>
      (tq_ai hh k6 x8).bind fun x9 =>
      (if x9 = 0 then
        (tq_gr hh i0 11 12).bind fun k10 =>
        (tq_ai hh k10 y4).bind fun x11 =>
        (tq_is hh i0 11).bind fun _ =>
        (f_X11_textsBelow i0 x11 i1 hh).bind fun v12 =>
        some v12
      else
        some (0 : Int32)).bind fun p14 =>
      (tq_gr hh i0 11 12).bind fun k15 =>
      (tq_ai hh k15 y4).bind fun x16 =>
      (tq_is hh i0 11).bind fun _ =>
      (f_X11_textsBelow i0 x16 (-1 : Int32) hh).bind fun v17 =>
      (tq_loop (f_X11_ranked_b100 i0 i1 i2 y3 y4 p14 v17 hh) tq_N ((0 : Int32), (0 : Int32))).bind fun o36 =>
      (if p14 ≤ 0 then
        some y3
      else
        if o36 = i2 then
          (tq_gr hh i0 11 12).bind fun k37 =>
          (tq_ai hh k37 y4).bind fun x38 =>
          some x38
        else
          some y3).bind fun p39 =>
      tq_let (y4 + (1 : Int32)) fun x40 =>
      some (.inl (p39, x40))
def f_X11_ranked (t : Nat) (a1 : Int32) (a2 : Int32) (h : tq_H) : Option (Int32 × tq_H) :=
  (if a2 ≥ 0 then
    (f_X11_in a1 (0 : Int32) (999 : Int32) h).bind fun v1 =>
    if v1 = 0 then
      some (2 : Int32)
    else
      some (0 : Int32)
  else
    some (1 : Int32)).bind fun p2 =>
  (tq_is h t 11).bind fun _ =>
  (f_X11_refused t p2 h).bind fun v3 =>
  if v3.1 = 0 then
    (tq_loop (f_X11_ranked_b38 t a1 a2 v3.2) tq_N ((-1 : Int32), (0 : Int32))).bind fun o41 =>
    some (o41, v3.2)
  else
    some ((0 : Int32), v3.2)
def f_X11_keep_b25 (i0 : Nat) (s : Int32 × tq_H) : Option ((Int32 × tq_H) ⊕ (tq_H)) := match s with
  | (y1, hh) =>
    if y1 ≥ (60 : Int32) then
      some (.inr hh)
    else
      (tq_gi hh i0 11 49).bind fun x5 =>
      tq_let ((((60 : Int32) * x5) + y1)) fun x6 =>
      (tq_gr hh i0 11 50).bind fun k7 =>
      (tq_gr hh i0 11 9).bind fun k8 =>
      (tq_az hh k8 y1).bind fun x9 =>
      (tq_sz hh k7 x6 x9).bind fun w10 =>
      (tq_gr w10 i0 11 51).bind fun k11 =>
      (tq_gr w10 i0 11 3).bind fun k12 =>
      (tq_ai w10 k12 y1).bind fun x13 =>
      (tq_si w10 k11 x6 x13).bind fun w14 =>
      (tq_gr w14 i0 11 52).bind fun k15 =>
      (tq_gr w14 i0 11 4).bind fun k16 =>
      (tq_ai w14 k16 y1).bind fun x17 =>
      (tq_si w14 k15 x6 x17).bind fun w18 =>
      (tq_gr w18 i0 11 53).bind fun k19 =>
      (tq_gr w18 i0 11 5).bind fun k20 =>
      (tq_ai w18 k20 y1).bind fun x21 =>
      (tq_si w18 k19 x6 x21).bind fun w22 =>
      (tq_gr w22 i0 11 54).bind fun k23 =>
      (tq_gr w22 i0 11 6).bind fun k24 =>
      (tq_ai w22 k24 y1).bind fun x25 =>
      (tq_si w22 k23 x6 x25).bind fun w26 =>
      (tq_gr w26 i0 11 55).bind fun k27 =>
      (tq_gr w26 i0 11 7).bind fun k28 =>
      (tq_ai w26 k28 y1).bind fun x29 =>
      (tq_si w26 k27 x6 x29).bind fun w30 =>
      tq_let (y1 + (1 : Int32)) fun x31 =>
      some (.inl (x31, w30))
def f_X11_keep (t : Nat) (h : tq_H) : Option (Int32 × tq_H) :=
  (tq_gi h t 11 49).bind fun x1 =>
  tq_let (if x1 = (6 : Int32) then (1 : Int32) else (0 : Int32)) fun p2 =>
  (tq_is h t 11).bind fun _ =>
  (f_X11_refused t p2 h).bind fun v3 =>
  if v3.1 = 0 then
    (tq_loop (f_X11_keep_b25 t) tq_N ((0 : Int32), v3.2)).bind fun o32 =>
    (tq_gi o32 t 11 49).bind fun x33 =>
    (tq_pf o32 t 11 49 (.int ((x33 + (1 : Int32))))).bind fun w34 =>
    (tq_gi w34 t 11 49).bind fun x35 =>
    some ((x35 - (1 : Int32)), w34)
  else
    some ((0 : Int32), v3.2)
def f_X11_load_b2 (i0 : Nat) (i1 : Int32) (s : Int32 × tq_H) : Option ((Int32 × tq_H) ⊕ (tq_H)) := match s with
  | (y2, hh) =>
    if y2 ≥ (60 : Int32) then
      some (.inr hh)
    else
      tq_let ((((60 : Int32) * i1) + y2)) fun x1 =>
      (tq_gr hh i0 11 9).bind fun k2 =>
      (tq_gr hh i0 11 50).bind fun k3 =>
      (tq_az hh k3 x1).bind fun x4 =>
      (tq_sz hh k2 y2 x4).bind fun w5 =>
      (tq_gr w5 i0 11 3).bind fun k6 =>
      (tq_gr w5 i0 11 51).bind fun k7 =>
      (tq_ai w5 k7 x1).bind fun x8 =>
      (tq_si w5 k6 y2 x8).bind fun w9 =>
      (tq_gr w9 i0 11 4).bind fun k10 =>
      (tq_gr w9 i0 11 52).bind fun k11 =>
      (tq_ai w9 k11 x1).bind fun x12 =>
      (tq_si w9 k10 y2 x12).bind fun w13 =>
      (tq_gr w13 i0 11 5).bind fun k14 =>
      (tq_gr w13 i0 11 53).bind fun k15 =>
      (tq_ai w13 k15 x1).bind fun x16 =>
      (tq_si w13 k14 y2 x16).bind fun w17 =>
      (tq_gr w17 i0 11 6).bind fun k18 =>
      (tq_gr w17 i0 11 54).bind fun k19 =>
      (tq_ai w17 k19 x1).bind fun x20 =>
      (tq_si w17 k18 y2 x20).bind fun w21 =>
      (tq_gr w21 i0 11 7).bind fun k22 =>
      (tq_gr w21 i0 11 55).bind fun k23 =>
      (tq_ai w21 k23 x1).bind fun x24 =>
      (tq_si w21 k22 y2 x24).bind fun w25 =>
      tq_let (y2 + (1 : Int32)) fun x26 =>
      some (.inl (x26, w25))
def f_X11_load (t : Nat) (a1 : Int32) (h : tq_H) : Option (tq_H) :=
  (tq_loop (f_X11_load_b2 t a1) tq_N ((0 : Int32), h)).bind fun o27 =>
  (tq_is o27 t 11).bind fun _ =>
  (f_X11_arrange t o27).bind fun v28 =>
  some v28
def f_X11_isVersion (t : Nat) (a1 : Int32) (h : tq_H) : Option (Int32) :=
  (tq_gi h t 11 49).bind fun x1 =>
  (f_X11_in a1 (0 : Int32) (x1 - (1 : Int32)) h).bind fun v2 =>
  (tq_bz v2).bind fun z3 =>
  some z3
def f_X11_take (t : Nat) (a1 : Int32) (h : tq_H) : Option (Int32 × tq_H) :=
  (tq_is h t 11).bind fun _ =>
  (f_X11_isVersion t a1 h).bind fun v1 =>
  (if v1 = 0 then
    some (1 : Int32)
  else
    (tq_gi h t 11 15).bind fun x3 =>
    if x3 ≤ 0 then
      some (0 : Int32)
    else
      some (2 : Int32)).bind fun p4 =>
  (tq_is h t 11).bind fun _ =>
  (f_X11_refused t p4 h).bind fun v5 =>
  if v5.1 = 0 then
    (tq_is v5.2 t 11).bind fun _ =>
    (f_X11_remember t v5.2).bind fun v7 =>
    (tq_is v7 t 11).bind fun _ =>
    (f_X11_load t a1 v7).bind fun v9 =>
    (tq_gi v9 t 11 42).bind fun x11 =>
    if x11 = 0 then
      (tq_is v9 t 11).bind fun _ =>
      (f_X11_numberAll t v9).bind fun v12 =>
      (tq_is v12 t 11).bind fun _ =>
      (f_X11_lookAtViews t v12).bind fun v14 =>
      (tq_gi v14 t 11 11).bind fun x16 =>
      some (x16, v14)
    else
      (tq_is v9 t 11).bind fun _ =>
      (f_X11_isRight t v9).bind fun v17 =>
      if v17.1 = 0 then
        (tq_is v17.2 t 11).bind fun _ =>
        (f_X11_comeBack t v17.2).bind fun v24 =>
        (tq_is v24 t 11).bind fun _ =>
        (f_X11_arrange t v24).bind fun v26 =>
        (tq_is v26 t 11).bind fun _ =>
        (f_X11_refused t (2 : Int32) v26).bind fun v28 =>
        some ((0 : Int32), v28.2)
      else
        (tq_is v17.2 t 11).bind fun _ =>
        (f_X11_numberAll t v17.2).bind fun v19 =>
        (tq_is v19 t 11).bind fun _ =>
        (f_X11_lookAtViews t v19).bind fun v21 =>
        (tq_gi v21 t 11 11).bind fun x23 =>
        some (x23, v21)
  else
    some ((0 : Int32), v5.2)
def f_X11_layOut_b33 (i0 : Nat) (i1 : Int32) (i3 : Int32) (hh : tq_H) (s : Int32 × Int32) : Option ((Int32 × Int32) ⊕ (Int32)) := match s with
  | (y4, y5) =>
    (tq_gi hh i0 11 11).bind fun x8 =>
    if y5 ≥ x8 then
      some (.inr y4)
    else
      (tq_gr hh i0 11 12).bind fun k9 =>
      (tq_ai hh k9 y5).bind fun x10 =>
      (tq_gr hh i0 11 12).bind fun k11 =>
      (tq_ai hh k11 i3).bind fun x12 =>
      (tq_is hh i0 11).bind fun _ =>
      (f_X11_isBelow i0 x10 x12 hh).bind fun v13 =>
      if v13 = 0 then
        some (.inr y4)
      else
        tq_let (y4 + (1 : Int32)) fun x15 =>
        tq_let (y5 + (1 : Int32)) fun x16 =>
        some (.inl (x15, x16))
def f_X11_layOut_b87 (i0 : Nat) (i1 : Int32) (i3 : Int32) (i4 : Int32) (hh : tq_H) (s : Int32 × Int32) : Option ((Int32 × Int32) ⊕ (Int32)) := match s with
  | (y5, y6) =>
    if y6 = (-1 : Int32) then
      some (.inr y5)
    else
      tq_let (y5 + (1 : Int32)) fun x22 =>
      (tq_gr hh i0 11 6).bind fun k23 =>
      (tq_ai hh k23 y6).bind fun x24 =>
      some (.inl (x22, x24))
def f_X11_layOut_b17 (i0 : Nat) (i1 : Int32) (s : Int32 × tq_H) : Option ((Int32 × tq_H) ⊕ (tq_H)) := match s with
  | (y3, hh) =>
    (tq_gi hh i0 11 11).bind fun x6 =>
    if y3 ≥ x6 then
      some (.inr hh)
    else
      tq_let ((y3 + (1 : Int32))) fun x7 =>
      (tq_loop (f_X11_layOut_b33 i0 i1 y3 hh) tq_N ((0 : Int32), x7)).bind fun o17 =>
      (tq_gr hh i0 11 6).bind fun k18 =>
      (tq_gr hh i0 11 12).bind fun k19 =>
      (tq_ai hh k19 y3).bind fun x20 =>
      (tq_ai hh k18 x20).bind fun x21 =>
      (tq_loop (f_X11_layOut_b87 i0 i1 y3 o17 hh) tq_N ((0 : Int32), x21)).bind fun o25 =>
      tq_let ((((y3 - o25) + o17) + (1 : Int32))) fun x26 =>
      (tq_gr hh i0 11 57).bind fun k27 =>
      (tq_gr hh i0 11 12).bind fun k28 =>
      (tq_ai hh k28 y3).bind fun x29 =>
      (tq_si hh k27 (((61 : Int32) * i1) + x26) x29).bind fun w30 =>
      (tq_gr w30 i0 11 58).bind fun k31 =>
      (tq_si w30 k31 (((61 : Int32) * i1) + x26) (x26 - o17)).bind fun w32 =>
      tq_let (y3 + (1 : Int32)) fun x33 =>
      some (.inl (x33, w32))
def f_X11_layOut (t : Nat) (a1 : Int32) (a2 : Int32) (h : tq_H) : Option (tq_H) :=
  (tq_is h t 11).bind fun _ =>
  (f_X11_load t a2 h).bind fun v1 =>
  (tq_gr v1 t 11 56).bind fun k3 =>
  (tq_gi v1 t 11 11).bind fun x4 =>
  (tq_si v1 k3 a1 x4).bind fun w5 =>
  (tq_loop (f_X11_layOut_b17 t a1) tq_N ((0 : Int32), w5)).bind fun o34 =>
  some o34
def f_X11_isAlike (t : Nat) (a1 : Int32) (a2 : Int32) (a3 : Int32) (a4 : Int32) (h : tq_H) : Option (Int32) :=
  tq_let ((((60 : Int32) * a1) + a2)) fun x1 =>
  tq_let ((((60 : Int32) * a4) + a3)) fun x2 =>
  (tq_gr h t 11 2).bind fun k3 =>
  (tq_ai h k3 a2).bind fun x4 =>
  (tq_gr h t 11 2).bind fun k5 =>
  (tq_ai h k5 a3).bind fun x6 =>
  (if x4 = x6 then
    (tq_gr h t 11 51).bind fun k7 =>
    (tq_ai h k7 x1).bind fun x8 =>
    (tq_gr h t 11 51).bind fun k9 =>
    (tq_ai h k9 x2).bind fun x10 =>
    if x8 = x10 then
      (tq_gr h t 11 52).bind fun k11 =>
      (tq_ai h k11 x1).bind fun x12 =>
      (tq_gr h t 11 52).bind fun k13 =>
      (tq_ai h k13 x2).bind fun x14 =>
      if x12 = x14 then
        (tq_gr h t 11 53).bind fun k15 =>
        (tq_ai h k15 x1).bind fun x16 =>
        (tq_gr h t 11 53).bind fun k17 =>
        (tq_ai h k17 x2).bind fun x18 =>
        if x16 = x18 then
          some (1 : Int32)
        else
          some (0 : Int32)
      else
        some (0 : Int32)
    else
      some (0 : Int32)
  else
    some (0 : Int32)).bind fun p19 =>
  (tq_bz p19).bind fun z20 =>
  some z20
def f_X11_isKey_b7 (i0 : Nat) (i1 : Int32) (i2 : Int32) (hh : tq_H) (s : Int32 × Int32) : Option ((Int32 × Int32) ⊕ (Int32)) := match s with
  | (y3, y4) =>
    (tq_gr hh i0 11 56).bind fun k2 =>
    (tq_ai hh k2 i1).bind fun x3 =>
    if y4 > x3 then
      some (.inr y3)
    else
      (if y3 = 0 then
        some (0 : Int32)
      else
        (tq_gr hh i0 11 58).bind fun k4 =>
        (tq_ai hh k4 (((61 : Int32) * i1) + y4)).bind fun x5 =>
        (tq_gr hh i0 11 58).bind fun k6 =>
        (tq_ai hh k6 (((61 : Int32) * i1) + i2)).bind fun x7 =>
        if x5 = x7 then
          some (0 : Int32)
        else
          some (1 : Int32)).bind fun p8 =>
      tq_let (y4 + (1 : Int32)) fun x9 =>
      some (.inl (p8, x9))
def f_X11_isKey (t : Nat) (a1 : Int32) (a2 : Int32) (h : tq_H) : Option (Int32) :=
  tq_let ((a2 + (1 : Int32))) fun x1 =>
  (tq_loop (f_X11_isKey_b7 t a1 a2 h) tq_N ((1 : Int32), x1)).bind fun o10 =>
  (tq_bz o10).bind fun z11 =>
  some z11
def f_X11_least (a0 : Int32) (a1 : Int32) (a2 : Int32) (h : tq_H) : Option (Int32) :=
  tq_let (if a0 ≥ a1 then a1 else a0) fun p1 =>
  tq_let (if p1 ≥ a2 then a2 else p1) fun p2 =>
  some p2
def f_X11_compareAt_b41 (i0 : Nat) (i1 : Int32) (i2 : Int32) (i3 : Int32) (i4 : Int32) (i5 : Int32) (i6 : Int32) (s : Int32 × tq_H) : Option ((Int32 × tq_H) ⊕ (tq_H)) := match s with
  | (y7, hh) =>
    if y7 > i1 then
      some (.inr hh)
    else
      (tq_gr hh i0 11 60).bind fun k7 =>
      (tq_gr hh i0 11 60).bind fun k8 =>
      (tq_ai hh k8 ((((61 : Int32) * (y7 - (1 : Int32))) + i6) - (1 : Int32))).bind fun x9 =>
      (tq_si hh k7 ((((61 : Int32) * y7) + i6) - (1 : Int32)) (x9 + (1 : Int32))).bind fun w10 =>
      tq_let (y7 + (1 : Int32)) fun x11 =>
      some (.inl (x11, w10))
def f_X11_compareAt_b91 (i0 : Nat) (i1 : Int32) (i2 : Int32) (i3 : Int32) (i4 : Int32) (i5 : Int32) (i6 : Int32) (s : Int32 × tq_H) : Option ((Int32 × tq_H) ⊕ (tq_H)) := match s with
  | (y7, hh) =>
    if y7 > i2 then
      some (.inr hh)
    else
      (tq_gr hh i0 11 60).bind fun k13 =>
      (tq_gr hh i0 11 60).bind fun k14 =>
      (tq_ai hh k14 ((((61 : Int32) * (i5 - (1 : Int32))) + y7) - (1 : Int32))).bind fun x15 =>
      (tq_si hh k13 (((61 : Int32) * (i5 - (1 : Int32))) + y7) (x15 + (1 : Int32))).bind fun w16 =>
      tq_let (y7 + (1 : Int32)) fun x17 =>
      some (.inl (x17, w16))
def f_X11_compareAt_b151 (i0 : Nat) (i1 : Int32) (i2 : Int32) (i3 : Int32) (i4 : Int32) (i5 : Int32) (i6 : Int32) (i7 : Int32) (s : Int32 × tq_H) : Option ((Int32 × tq_H) ⊕ (tq_H)) := match s with
  | (y8, hh) =>
    if y8 > i2 then
      some (.inr hh)
    else
      (tq_gr hh i0 11 60).bind fun k19 =>
      (tq_ai hh k19 (((61 : Int32) * (i7 - (1 : Int32))) + y8)).bind fun x20 =>
      tq_let ((x20 + (1 : Int32))) fun x21 =>
      (tq_gr hh i0 11 60).bind fun k22 =>
      (tq_ai hh k22 ((((61 : Int32) * i7) + y8) - (1 : Int32))).bind fun x23 =>
      tq_let ((x23 + (1 : Int32))) fun x24 =>
      (tq_gr hh i0 11 58).bind fun k25 =>
      (tq_ai hh k25 i7).bind fun x26 =>
      (if x26 = i5 then
        (tq_gr hh i0 11 58).bind fun k27 =>
        (tq_ai hh k27 ((61 : Int32) + y8)).bind fun x28 =>
        if x28 = i6 then
          some (1 : Int32)
        else
          some (0 : Int32)
      else
        some (0 : Int32)).bind fun p29 =>
      (if p29 = 0 then
        (tq_gr hh i0 11 60).bind fun k30 =>
        (tq_gr hh i0 11 58).bind fun k31 =>
        (tq_ai hh k31 i7).bind fun x32 =>
        (tq_gr hh i0 11 58).bind fun k33 =>
        (tq_ai hh k33 ((61 : Int32) + y8)).bind fun x34 =>
        (tq_ai hh k30 ((((61 : Int32) * (x32 - (1 : Int32))) + x34) - (1 : Int32))).bind fun x35 =>
        (tq_gr hh i0 11 59).bind fun k36 =>
        (tq_ai hh k36 (((61 : Int32) * i7) + y8)).bind fun x37 =>
        some (x35 + x37)
      else
        (tq_gr hh i0 11 60).bind fun k38 =>
        (tq_ai hh k38 ((((61 : Int32) * (i7 - (1 : Int32))) + y8) - (1 : Int32))).bind fun x39 =>
        (tq_gr hh i0 11 57).bind fun k40 =>
        (tq_ai hh k40 i7).bind fun x41 =>
        (tq_gr hh i0 11 57).bind fun k42 =>
        (tq_ai hh k42 ((61 : Int32) + y8)).bind fun x43 =>
        (tq_is hh i0 11).bind fun _ =>
        (f_X11_isAlike i0 i3 x41 x43 i4 hh).bind fun v44 =>
        tq_let (if v44 = 0 then (1 : Int32) else (0 : Int32)) fun p46 =>
        some (x39 + p46)).bind fun p47 =>
      (tq_gr hh i0 11 60).bind fun k48 =>
      (f_X11_least x21 x24 p47 hh).bind fun v49 =>
      (tq_si hh k48 (((61 : Int32) * i7) + y8) v49).bind fun w50 =>
      (tq_gr w50 i0 11 59).bind fun k51 =>
      (if p29 = 0 then
        (tq_gr w50 i0 11 59).bind fun k52 =>
        (tq_ai w50 k52 (((61 : Int32) * i7) + y8)).bind fun x53 =>
        some x53
      else
        (tq_gr w50 i0 11 60).bind fun k54 =>
        (tq_ai w50 k54 (((61 : Int32) * i7) + y8)).bind fun x55 =>
        some x55).bind fun p56 =>
      (tq_si w50 k51 (((61 : Int32) * i7) + y8) p56).bind fun w57 =>
      tq_let (y8 + (1 : Int32)) fun x58 =>
      some (.inl (x58, w57))
def f_X11_compareAt_b141 (i0 : Nat) (i1 : Int32) (i2 : Int32) (i3 : Int32) (i4 : Int32) (i5 : Int32) (i6 : Int32) (s : Int32 × tq_H) : Option ((Int32 × tq_H) ⊕ (tq_H)) := match s with
  | (y7, hh) =>
    if y7 > i1 then
      some (.inr hh)
    else
      (tq_loop (f_X11_compareAt_b151 i0 i1 i2 i3 i4 i5 i6 y7) tq_N (i6, hh)).bind fun o59 =>
      tq_let (y7 + (1 : Int32)) fun x60 =>
      some (.inl (x60, o59))
def f_X11_compareAt (t : Nat) (a1 : Int32) (a2 : Int32) (a3 : Int32) (a4 : Int32) (h : tq_H) : Option (tq_H) :=
  (tq_gr h t 11 58).bind fun k1 =>
  (tq_ai h k1 a1).bind fun x2 =>
  (tq_gr h t 11 58).bind fun k3 =>
  (tq_ai h k3 ((61 : Int32) + a2)).bind fun x4 =>
  (tq_gr h t 11 60).bind fun k5 =>
  (tq_si h k5 ((((61 : Int32) * (x2 - (1 : Int32))) + x4) - (1 : Int32)) (0 : Int32)).bind fun w6 =>
  (tq_loop (f_X11_compareAt_b41 t a1 a2 a3 a4 x2 x4) tq_N (x2, w6)).bind fun o12 =>
  (tq_loop (f_X11_compareAt_b91 t a1 a2 a3 a4 x2 x4) tq_N (x4, o12)).bind fun o18 =>
  (tq_loop (f_X11_compareAt_b141 t a1 a2 a3 a4 x2 x4) tq_N (x2, o18)).bind fun o61 =>
  some o61
def f_X11_distance_b61 (i0 : Nat) (i1 : Int32) (i2 : Int32) (i3 : Int32) (s : Int32 × tq_H) : Option ((Int32 × tq_H) ⊕ (tq_H)) := match s with
  | (y4, hh) =>
    (tq_gr hh i0 11 56).bind fun k16 =>
    (tq_ai hh k16 (1 : Int32)).bind fun x17 =>
    if y4 > x17 then
      some (.inr hh)
    else
      (tq_is hh i0 11).bind fun _ =>
      (f_X11_isKey i0 (0 : Int32) i3 hh).bind fun v18 =>
      (if v18 = 0 then
        some hh
      else
        (tq_is hh i0 11).bind fun _ =>
        (f_X11_isKey i0 (1 : Int32) y4 hh).bind fun v20 =>
        if v20 = 0 then
          some hh
        else
          (tq_is hh i0 11).bind fun _ =>
          (f_X11_compareAt i0 i3 y4 i1 i2 hh).bind fun v22 =>
          some v22).bind fun p24 =>
      tq_let (y4 + (1 : Int32)) fun x25 =>
      some (.inl (x25, p24))
def f_X11_distance_b48 (i0 : Nat) (i1 : Int32) (i2 : Int32) (s : Int32 × tq_H) : Option ((Int32 × tq_H) ⊕ (tq_H)) := match s with
  | (y3, hh) =>
    (tq_gr hh i0 11 56).bind fun k14 =>
    (tq_ai hh k14 (0 : Int32)).bind fun x15 =>
    if y3 > x15 then
      some (.inr hh)
    else
      (tq_loop (f_X11_distance_b61 i0 i1 i2 y3) tq_N ((1 : Int32), hh)).bind fun o26 =>
      tq_let (y3 + (1 : Int32)) fun x27 =>
      some (.inl (x27, o26))
def f_X11_distance (t : Nat) (a1 : Int32) (a2 : Int32) (h : tq_H) : Option (Int32 × tq_H) :=
  (tq_is h t 11).bind fun _ =>
  (f_X11_isVersion t a1 h).bind fun v1 =>
  (if v1 = 0 then
    some (1 : Int32)
  else
    (tq_is h t 11).bind fun _ =>
    (f_X11_isVersion t a2 h).bind fun v3 =>
    if v3 = 0 then
      some (1 : Int32)
    else
      some (0 : Int32)).bind fun p5 =>
  (tq_is h t 11).bind fun _ =>
  (f_X11_refused t p5 h).bind fun v6 =>
  if v6.1 = 0 then
    (tq_is v6.2 t 11).bind fun _ =>
    (f_X11_remember t v6.2).bind fun v8 =>
    (tq_is v8 t 11).bind fun _ =>
    (f_X11_layOut t (0 : Int32) a1 v8).bind fun v10 =>
    (tq_is v10 t 11).bind fun _ =>
    (f_X11_layOut t (1 : Int32) a2 v10).bind fun v12 =>
    (tq_loop (f_X11_distance_b48 t a1 a2) tq_N ((1 : Int32), v12)).bind fun o28 =>
    (tq_is o28 t 11).bind fun _ =>
    (f_X11_comeBack t o28).bind fun v29 =>
    (tq_is v29 t 11).bind fun _ =>
    (f_X11_arrange t v29).bind fun v31 =>
    (tq_gr v31 t 11 59).bind fun k33 =>
    (tq_gr v31 t 11 56).bind fun k34 =>
    (tq_ai v31 k34 (0 : Int32)).bind fun x35 =>
    (tq_gr v31 t 11 56).bind fun k36 =>
    (tq_ai v31 k36 (1 : Int32)).bind fun x37 =>
    (tq_ai v31 k33 (((61 : Int32) * x35) + x37)).bind fun x38 =>
    some (x38, v31)
  else
    some ((0 : Int32), v6.2)
def f_X11_differ (t : Nat) (a1 : Int32) (a2 : Int32) (h : tq_H) : Option (Int32) :=
  (tq_gr h t 11 54).bind fun k1 =>
  (tq_ai h k1 a1).bind fun x2 =>
  (tq_gr h t 11 54).bind fun k3 =>
  (tq_ai h k3 a2).bind fun x4 =>
  (if x2 = x4 then
    (tq_gr h t 11 51).bind fun k5 =>
    (tq_ai h k5 a1).bind fun x6 =>
    (tq_gr h t 11 51).bind fun k7 =>
    (tq_ai h k7 a2).bind fun x8 =>
    if x6 = x8 then
      (tq_gr h t 11 52).bind fun k9 =>
      (tq_ai h k9 a1).bind fun x10 =>
      (tq_gr h t 11 52).bind fun k11 =>
      (tq_ai h k11 a2).bind fun x12 =>
      if x10 = x12 then
        (tq_gr h t 11 53).bind fun k13 =>
        (tq_ai h k13 a1).bind fun x14 =>
        (tq_gr h t 11 53).bind fun k15 =>
        (tq_ai h k15 a2).bind fun x16 =>
        if x14 = x16 then
          some (0 : Int32)
        else
          some (1 : Int32)
      else
        some (1 : Int32)
    else
      some (1 : Int32)
  else
    some (1 : Int32)).bind fun p17 =>
  (tq_gr h t 11 50).bind fun k18 =>
  (tq_az h k18 a1).bind fun x19 =>
  (tq_gr h t 11 50).bind fun k20 =>
  (tq_az h k20 a2).bind fun x21 =>
  (if x19 = x21 then
    (tq_gr h t 11 50).bind fun k22 =>
    (tq_az h k22 a1).bind fun x23 =>
    if x23 = 0 then
      some (0 : Int32)
    else
      if p17 = 0 then
        some (0 : Int32)
      else
        some (1 : Int32)
  else
    some (1 : Int32)).bind fun p24 =>
  (tq_bz p24).bind fun z25 =>
  some z25
def f_X11_odds_b56 (i0 : Nat) (i1 : Int32) (i2 : Int32) (i3 : Int32) (hh : tq_H) (s : Int32 × Int32) : Option ((Int32 × Int32) ⊕ (Int32)) := match s with
  | (y5, y6) =>
    (tq_gi hh i0 11 1).bind fun x11 =>
    if y6 ≥ x11 then
      some (.inr y5)
    else
      tq_let ((((60 : Int32) * i1) + y6)) fun x12 =>
      tq_let ((((60 : Int32) * i2) + y6)) fun x13 =>
      tq_let ((((60 : Int32) * i3) + y6)) fun x14 =>
      (tq_is hh i0 11).bind fun _ =>
      (f_X11_differ i0 x12 x13 hh).bind fun v15 =>
      (if v15 = 0 then
        some (0 : Int32)
      else
        (tq_is hh i0 11).bind fun _ =>
        (f_X11_differ i0 x12 x14 hh).bind fun v17 =>
        if v17 = 0 then
          some (0 : Int32)
        else
          (tq_is hh i0 11).bind fun _ =>
          (f_X11_differ i0 x13 x14 hh).bind fun v19 =>
          if v19 = 0 then
            some (0 : Int32)
          else
            some (1 : Int32)).bind fun p21 =>
      tq_let ((y5 + p21)) fun x22 =>
      tq_let (y6 + (1 : Int32)) fun x23 =>
      some (.inl (x22, x23))
def f_X11_odds (t : Nat) (a1 : Int32) (a2 : Int32) (a3 : Int32) (h : tq_H) : Option (Int32 × tq_H) :=
  (tq_is h t 11).bind fun _ =>
  (f_X11_isVersion t a1 h).bind fun v1 =>
  (if v1 = 0 then
    some (0 : Int32)
  else
    (tq_is h t 11).bind fun _ =>
    (f_X11_isVersion t a2 h).bind fun v3 =>
    if v3 = 0 then
      some (0 : Int32)
    else
      (tq_is h t 11).bind fun _ =>
      (f_X11_isVersion t a3 h).bind fun v5 =>
      if v5 = 0 then
        some (0 : Int32)
      else
        some (1 : Int32)).bind fun p7 =>
  tq_let (if p7 = 0 then (1 : Int32) else (0 : Int32)) fun p8 =>
  (tq_is h t 11).bind fun _ =>
  (f_X11_refused t p8 h).bind fun v9 =>
  if v9.1 = 0 then
    (tq_loop (f_X11_odds_b56 t a1 a2 a3 v9.2) tq_N ((0 : Int32), (0 : Int32))).bind fun o24 =>
    some (o24, v9.2)
  else
    some ((0 : Int32), v9.2)
def f_X11_hide_b4 (i0 : Nat) (i1 : Int32) (hh : tq_H) (s : Int32 × Int32) : Option ((Int32 × Int32) ⊕ (Int32)) := match s with
  | (y2, y3) =>
    (tq_gi hh i0 11 33).bind fun x1 =>
    if y3 ≥ x1 then
      some (.inr y2)
    else
      (tq_gr hh i0 11 34).bind fun k2 =>
      (tq_ai hh k2 y3).bind fun x3 =>
      tq_let (if x3 = i1 then y3 else y2) fun p4 =>
      tq_let (y3 + (1 : Int32)) fun x5 =>
      some (.inl (p4, x5))
def f_X11_hide (t : Nat) (a1 : Int32) (h : tq_H) : Option (Int32 × tq_H) :=
  (tq_loop (f_X11_hide_b4 t a1 h) tq_N ((-1 : Int32), (0 : Int32))).bind fun o6 =>
  (tq_is h t 11).bind fun _ =>
  (f_X11_isPath t a1 h).bind fun v7 =>
  (if v7 = 0 then
    some (1 : Int32)
  else
    if o6 = (-1 : Int32) then
      (tq_gi h t 11 33).bind fun x9 =>
      if x9 = (3 : Int32) then
        some (2 : Int32)
      else
        some (0 : Int32)
    else
      some (0 : Int32)).bind fun p10 =>
  (tq_is h t 11).bind fun _ =>
  (f_X11_refused t p10 h).bind fun v11 =>
  if v11.1 = 0 then
    if o6 = (-1 : Int32) then
      (tq_gr v11.2 t 11 34).bind fun k20 =>
      (tq_gi v11.2 t 11 33).bind fun x21 =>
      (tq_si v11.2 k20 x21 a1).bind fun w22 =>
      (tq_gi w22 t 11 33).bind fun x23 =>
      (tq_pf w22 t 11 33 (.int ((x23 + (1 : Int32))))).bind fun w24 =>
      some ((1 : Int32), w24)
    else
      (tq_gi v11.2 t 11 33).bind fun x13 =>
      (tq_pf v11.2 t 11 33 (.int ((x13 - (1 : Int32))))).bind fun w14 =>
      (tq_gr w14 t 11 34).bind fun k15 =>
      (tq_gr w14 t 11 34).bind fun k16 =>
      (tq_gi w14 t 11 33).bind fun x17 =>
      (tq_ai w14 k16 x17).bind fun x18 =>
      (tq_si w14 k15 o6 x18).bind fun w19 =>
      some ((0 : Int32), w19)
  else
    some ((0 : Int32), v11.2)
def f_X11_isSeen (t : Nat) (a1 : Int32) (h : tq_H) : Option (Int32 × tq_H) :=
  (tq_is h t 11).bind fun _ =>
  (f_X11_noNode t a1 h).bind fun v1 =>
  (if v1.1 = 0 then
    (tq_is v1.2 t 11).bind fun _ =>
    (f_X11_seen t v1.2).bind fun v3 =>
    if (lg_cmp ((v3.1 >>> (a1.toInt64 &&& 63)) &&& (1 : Int64)) (1 : Int64)) = 0 then
      some ((1 : Int32), v3.2)
    else
      some ((0 : Int32), v3.2)
  else
    some ((0 : Int32), v1.2)).bind fun p5 =>
  (tq_bz p5.1).bind fun z6 =>
  some (z6, p5.2)
