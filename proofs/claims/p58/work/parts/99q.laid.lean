/-! ===== the reference lays the children: the old child of a place; all places ===== -/
section RL2
variable {S : tq_H} {c c' c'' c0 : tc_C} {z m i j k v w K E p n : Nat} {U : Ups} {D : Doc} {P : List Nat}
theorem Ups.tk_or (v : Nat) : U.tk U.n v = (anyB (fun j => decide (U.uw j = 1 ∧ U.ut j = v)) U.n || anyB (fun j => decide (U.uw j = 4 ∧ U.ut j = v)) U.n) := by
  refine Bool.ext_iff ?_
  rw [U.tk_iff, Bool.or_eq_true, anyB_iff, anyB_iff]
  constructor
  · rintro ⟨j, h1, h2 | h2, h3⟩
    · exact .inl ⟨j, h1, decide_eq_true ⟨h2, h3⟩⟩
    · exact .inr ⟨j, h1, decide_eq_true ⟨h2, h3⟩⟩
  · rintro (⟨j, h1, h2⟩ | ⟨j, h1, h2⟩)
    · exact ⟨j, h1, .inl (of_decide_eq_true h2).1, (of_decide_eq_true h2).2⟩
    · exact ⟨j, h1, .inr (of_decide_eq_true h2).1, (of_decide_eq_true h2).2⟩
/-- the old child of a place, once its number has come by -/
def Ups.kv (U : Ups) (D : Doc) (i p v : Nat) : List Nat := if p < fb_ct (D.ax 1 i) 64 ∧ U.tk U.n (D.ord (kS (D.ax 1 i) p)) = false ∧ D.ord (kS (D.ax 1 i) p) < v then [D.ord (kS (D.ax 1 i) p)] else []
theorem Ups.kv_s (v : Nat) : U.kv D i p (v + 1) = U.kv D i p v ∨ (p < fb_ct (D.ax 1 i) 64 ∧ U.tk U.n (D.ord (kS (D.ax 1 i) p)) = false ∧ D.ord (kS (D.ax 1 i) p) = v ∧ U.kv D i p v = [] ∧ U.kv D i p (v + 1) = [v]) := by
  unfold Ups.kv
  by_cases q : p < fb_ct (D.ax 1 i) 64 ∧ U.tk U.n (D.ord (kS (D.ax 1 i) p)) = false
  · rcases Nat.lt_trichotomy (D.ord (kS (D.ax 1 i) p)) v with r | r | r
    · left
      rw [if_pos ⟨q.1, q.2, by omega⟩, if_pos ⟨q.1, q.2, r⟩]
    · right
      refine ⟨q.1, q.2, r, ?_, ?_⟩
      · rw [if_neg (fun z => by omega)]
      · rw [if_pos ⟨q.1, q.2, by omega⟩, r]
    · left
      rw [if_neg (fun z => by omega), if_neg (fun z => by omega)]
  · left
    rw [if_neg (fun z => q ⟨z.1, z.2.1⟩), if_neg (fun z => q ⟨z.1, z.2.1⟩)]
theorem PCh.at147 (h : PCh S c0 z m D U) (hi : i < D.n) (hL : LayK c0 c (D.ord i) P) (hp1 : p < 100) (hnd : (P ++ U.ko D i p).Nodup)
    (hpar : ∀ j, D.ax 1 i j = true → U.tk U.n (D.ord j) = false → c0.1 160 (D.ord j) = nI (D.ord i)) (x : Int32) :
    ∃ c', tq_loop (f_X11_layChildren_b147 155 (nI (D.ord i)) x (nI p)) tq_N (nI P.length, (0 : Int32), tc_mk S c) = some (nI (P ++ U.ko D i p).length, tc_mk S c') ∧ LayK c0 c' (D.ord i) (P ++ U.ko D i p) := by
  have hn20 := h.2.2.1.2.1
  have hm60 : m ≤ 60 := h.2.1.2.1.1.2.1
  have hko : U.ko D i p = U.kv D i p m := by
    unfold Ups.ko Ups.kv
    by_cases q : p < fb_ct (D.ax 1 i) 64 ∧ U.tk U.n (D.ord (kS (D.ax 1 i) p)) = false
    · obtain ⟨k1, k2, k3, k4⟩ := kS_at q.1
      rw [if_pos q, if_pos ⟨q.1, q.2, h.2.1.2.1.1.2.2 _ (D.ax_lt _ _ _ k2)⟩]
    · rw [if_neg q, if_neg (fun z => q ⟨z.1, z.2.1⟩)]
  rw [hko] at hnd ⊢
  have e00 : U.kv D i p 0 = [] := if_neg (fun z => Nat.not_lt_zero _ z.2.2)
  obtain ⟨y, y1, y2⟩ := tc_run (B := f_X11_layChildren_b147 155 (nI (D.ord i)) x (nI p)) m
    (fun v y => (nI (P ++ U.kv D i p v).length, nI v, tc_mk S y)) (fun v y => LayK c0 y (D.ord i) (P ++ U.kv D i p v)) (fun y => (nI (P ++ U.kv D i p m).length, tc_mk S y)) (by omega) (fun v y hv hy => by
      have hC := h.lk hy
      obtain ⟨hM, ⟨hw, hu, hok, hr⟩, hUR, h1, ⟨r1, r2, r3⟩, r4⟩ := hC
      have hv60 : v < 60 := by omega
      have l1 := s_X11_isListed (c := y) hM hw hu hUR hv60 (a := 1) (by decide) (by decide)
      have l4 := s_X11_isListed (c := y) hM hw hu hUR hv60 (a := 4) (by decide) (by decide)
      have l1 : f_X11_isListed 155 (nI v) 1 (tc_mk S y) = _ := l1
      have l4 : f_X11_isListed 155 (nI v) 4 (tc_mk S y) = _ := l4
      have htk := U.tk_or v
      have e1 : ¬ nI v ≥ nI m := nI_ge hv (by omega)
      have n10 : ¬ (1 : Int32) = 0 := by decide
      have b1 : ¬ bI true = 0 := by decide
      have b0 : bI false = 0 := rfl
      have hE60 := D.ord_lt hw hi
      rcases U.kv_s (D := D) (i := i) (p := p) v with e | ⟨g1, g2, g3, g4, g5⟩
      · rw [e]
        refine ⟨y, ?_, hy⟩
        generalize P ++ U.kv D i p v = Q at *
        -- nothing comes: not there, not a child of this element, not of this place, or taken
        by_cases q0 : y.1 173 v = 0
        · simp (maxSteps := 3000000) (disch := omega) only [Option.bind_some, tc_bs, tq_let, tc_I1, tc_I2, tc_J1, tc_J2, tc_J3, tc_F1, tc_F2, tc_F3, tc_F4, tc_G1, tc_G2, tc_G3, tc_G4, tc_G5, tc_us, tc_un, s_one, s_holds, s_J13_bitCount, bz_bI, f_X11_layChildren_b147, hM.f, h1, e1, q0, if_true, if_false, nI_1]
        · have hin : ∃ j, j < D.n ∧ D.ord j = v := by
            refine Classical.byContradiction fun hno => q0 (r3 v hv60 fun i hi e => hno ⟨i, hi, e⟩)
          obtain ⟨j, hj, rfl⟩ := hin
          obtain ⟨-, -, -, f4, f5⟩ := r1 j hj
          have f6 := r4 j hj
          by_cases q1 : y.1 171 (D.ord j) = nI (D.ord i)
          · have hj0 : 0 < j ∧ D.up j = i := by
              rw [f4] at q1
              unfold Doc.upN at q1
              by_cases z0 : j = 0
              · rw [if_pos z0] at q1
                exact absurd q1.symm (nI_nm1 (by omega))
              · have hup := D.up_lt hw (Nat.pos_of_ne_zero z0) hj
                rw [if_neg z0] at q1
                refine ⟨Nat.pos_of_ne_zero z0, D.ord_inj hw (by omega) hi ((nI_eq (by have := D.ord_lt hw (show D.up j < D.n by omega); omega) (by omega)).mp q1)⟩
            by_cases q3 : D.kd j = 2
            · rw [q3] at f6
              by_cases q2 : y.1 172 (D.ord j) = nI p
              · simp (maxSteps := 3000000) (disch := omega) only [Option.bind_some, tc_bs, tq_let, tc_I1, tc_I2, tc_J1, tc_J2, tc_J3, tc_F1, tc_F2, tc_F3, tc_F4, tc_G1, tc_G2, tc_G3, tc_G4, tc_G5, tc_us, tc_un, s_one, s_holds, s_J13_bitCount, bz_bI, f_X11_layChildren_b147, hM.f, h1, e1, q0, q1, q2, f6, if_true, if_false, nI_1]
              · simp (maxSteps := 3000000) (disch := omega) only [Option.bind_some, tc_bs, tq_let, tc_I1, tc_I2, tc_J1, tc_J2, tc_J3, tc_F1, tc_F2, tc_F3, tc_F4, tc_G1, tc_G2, tc_G3, tc_G4, tc_G5, tc_us, tc_un, s_one, s_holds, s_J13_bitCount, bz_bI, f_X11_layChildren_b147, hM.f, h1, e1, q0, q1, q2, f6, if_true, if_false, nI_1]
            · have q3' : ¬ y.1 156 (D.ord j) = 2 := by rw [f6]; exact q3
              have f7 := r2 j hj0.1 hj q3
              have hax : D.ax 1 i j = true := Doc.ax1.mpr ⟨hj, hj0.1, hj0.2, q3⟩
              rw [Doc.rk_ax hw hi hax] at f7
              have hn60 := D.n_le hw
              obtain ⟨k1, k2⟩ := kS_of hax (by omega)
              have h64 := fb_ct_le (D.ax 1 i) 64
              by_cases q2 : fb_ct (D.ax 1 i) j = p
              · rw [q2] at f7 k1 k2
                -- it is the child of this place: taken
                cases ht : U.tk U.n (D.ord j) with
                | false =>
                  exfalso
                  have : U.kv D i p (D.ord j + 1) = [D.ord j] := by
                    unfold Ups.kv
                    rw [k1, if_pos ⟨k2, ht, Nat.lt_succ_self _⟩]
                  have h3 : U.kv D i p (D.ord j) = [] := by
                    unfold Ups.kv
                    rw [k1, if_neg (fun z => Nat.lt_irrefl _ z.2.2)]
                  rw [this, h3] at e
                  cases e
                | true =>
                  rw [ht] at htk
                  cases t1 : anyB (fun k => decide (U.uw k = 1 ∧ U.ut k = D.ord j)) U.n with
                  | true =>
                    rw [t1] at l1
                    simp (maxSteps := 3000000) (disch := omega) only [Option.bind_some, tc_bs, tq_let, tc_I1, tc_I2, tc_J1, tc_J2, tc_J3, tc_F1, tc_F2, tc_F3, tc_F4, tc_G1, tc_G2, tc_G3, tc_G4, tc_G5, tc_us, tc_un, s_one, s_holds, s_J13_bitCount, bz_bI, f_X11_layChildren_b147, hM.f, h1, e1, q0, q1, f7, q3', n10, l1, b1, if_true, if_false, nI_1]
                  | false =>
                    rw [t1, Bool.false_or] at htk
                    rw [t1] at l1
                    rw [← htk] at l4
                    simp (maxSteps := 3000000) (disch := omega) only [Option.bind_some, tc_bs, tq_let, tc_I1, tc_I2, tc_J1, tc_J2, tc_J3, tc_F1, tc_F2, tc_F3, tc_F4, tc_G1, tc_G2, tc_G3, tc_G4, tc_G5, tc_us, tc_un, s_one, s_holds, s_J13_bitCount, bz_bI, f_X11_layChildren_b147, hM.f, h1, e1, q0, q1, f7, q3', n10, l1, l4, b1, b0, if_true, if_false, nI_1]
              · have n2 : ¬ nI (fb_ct (D.ax 1 i) j) = nI p := fun z => q2 ((nI_eq (by omega) (by omega)).mp z)
                simp (maxSteps := 3000000) (disch := omega) only [Option.bind_some, tc_bs, tq_let, tc_I1, tc_I2, tc_J1, tc_J2, tc_J3, tc_F1, tc_F2, tc_F3, tc_F4, tc_G1, tc_G2, tc_G3, tc_G4, tc_G5, tc_us, tc_un, s_one, s_holds, s_J13_bitCount, bz_bI, f_X11_layChildren_b147, hM.f, h1, e1, q0, q1, f7, n2, if_true, if_false, nI_1]
          · simp (maxSteps := 3000000) (disch := omega) only [Option.bind_some, tc_bs, tq_let, tc_I1, tc_I2, tc_J1, tc_J2, tc_J3, tc_F1, tc_F2, tc_F3, tc_F4, tc_G1, tc_G2, tc_G3, tc_G4, tc_G5, tc_us, tc_un, s_one, s_holds, s_J13_bitCount, bz_bI, f_X11_layChildren_b147, hM.f, h1, e1, q0, q1, if_true, if_false, nI_1]
      · -- it comes
        obtain ⟨k1, k2, k3, k4⟩ := kS_at g1
        have hj := D.ax_lt _ _ _ k2
        obtain ⟨-, x1, x2, x3⟩ := Doc.ax1.mp k2
        rw [g4, List.append_nil] at hy ⊢
        rw [g5]
        generalize kS (D.ax 1 i) p = j at *
        subst g3
        obtain ⟨-, -, -, f4, f5⟩ := r1 j hj
        have f6 := r4 j hj
        have f7 := r2 j x1 hj x3
        rw [Doc.rk_ax hw hi k2, k3] at f7
        have q0 : ¬ y.1 173 (D.ord j) = 0 := by rw [f5]; decide
        have q1 : y.1 171 (D.ord j) = nI (D.ord i) := by rw [f4]; unfold Doc.upN; rw [if_neg (by omega), x2]
        have q3 : ¬ y.1 156 (D.ord j) = 2 := by rw [f6]; exact x3
        rw [g2] at htk
        have t1 : anyB (fun k => decide (U.uw k = 1 ∧ U.ut k = D.ord j)) U.n = false := by
          cases e : anyB (fun k => decide (U.uw k = 1 ∧ U.ut k = D.ord j)) U.n with
          | false => rfl
          | true => rw [e, Bool.true_or] at htk; cases htk
        rw [t1, Bool.false_or] at htk
        rw [t1] at l1
        rw [← htk] at l4
        have hnot : D.ord j ∉ P := fun hin => by
          have hsub : U.kv D i p m = [D.ord j] := by
            rcases Nat.lt_or_ge (D.ord j + 1) m with a | a
            · unfold Ups.kv at g5 ⊢
              split at g5
              · rename_i hh
                rw [if_pos ⟨hh.1, hh.2.1, by have := hh.2.2; omega⟩]; exact g5
              · cases g5
            · rw [show m = D.ord j + 1 by omega]; exact g5
          rw [hsub] at hnd
          exact (List.nodup_append.mp hnd).2.2 _ hin _ (by simp) rfl
        have hEv : y.1 160 (D.ord j) = nI (D.ord i) := by
          rw [(hy.2.1 _ hnot).1]
          exact hpar j k2 g2
        refine ⟨_, ?_, hy.add hnot (c' := tc_I y 161 (upd (y.1 161) (D.ord j) (nI P.length))) ?_ ?_ (fun a z1 z2 => ?_) rfl⟩
        · rw [List.length_append, List.length_singleton]
          simp (maxSteps := 3000000) (disch := omega) only [Option.bind_some, tc_bs, tq_let, tc_I1, tc_I2, tc_J1, tc_J2, tc_J3, tc_F1, tc_F2, tc_F3, tc_F4, tc_G1, tc_G2, tc_G3, tc_G4, tc_G5, tc_us, tc_un, s_one, s_holds, s_J13_bitCount, bz_bI, f_X11_layChildren_b147, hM.f, h1, e1, q0, q1, f7, q3, n10, l1, l4, b0, if_true, if_false, nI_1]
        · simp (maxSteps := 3000000) (disch := omega) only [Option.bind_some, tc_bs, tq_let, tc_I1, tc_I2, tc_J1, tc_J2, tc_J3, tc_F1, tc_F2, tc_F3, tc_F4, tc_G1, tc_G2, tc_G3, tc_G4, tc_G5, tc_us, tc_un, s_one, s_holds, s_J13_bitCount, bz_bI, if_true]
        · simp (maxSteps := 3000000) (disch := omega) only [Option.bind_some, tc_bs, tq_let, tc_I1, tc_I2, tc_J1, tc_J2, tc_J3, tc_F1, tc_F2, tc_F3, tc_F4, tc_G1, tc_G2, tc_G3, tc_G4, tc_G5, tc_us, tc_un, s_one, s_holds, s_J13_bitCount, bz_bI, if_true]
          funext u
          by_cases e : u = D.ord j
          · rw [e, upd_s]; exact hEv
          · rw [upd_n _ _ e]
        · simp (maxSteps := 3000000) (disch := omega) only [Option.bind_some, tc_bs, tq_let, tc_I1, tc_I2, tc_J1, tc_J2, tc_J3, tc_F1, tc_F2, tc_F3, tc_F4, tc_G1, tc_G2, tc_G3, tc_G4, tc_G5, tc_us, tc_un, s_one, s_holds, s_J13_bitCount, bz_bI, if_true]) (fun y hy => by
      have hC := h.lk hy
      obtain ⟨hM, -, -, h1, -⟩ := hC
      have e1 : nI m ≥ nI m := Int32.le_refl _
      simp (maxSteps := 3000000) (disch := omega) only [Option.bind_some, tc_bs, tq_let, tc_I1, tc_I2, tc_J1, tc_J2, tc_J3, tc_F1, tc_F2, tc_F3, tc_F4, tc_G1, tc_G2, tc_G3, tc_G4, tc_G5, tc_us, tc_un, s_one, s_holds, s_J13_bitCount, bz_bI, f_X11_layChildren_b147, hM.f, h1, e1, if_true]) (x := c) (by rw [e00, List.append_nil]; exact hL)
  rw [e00, List.append_nil] at y1
  exact ⟨y, y1, y2⟩
/-- the new list of an element -/
def Ups.KL (U : Ups) (m : Nat) (D : Doc) (i : Nat) : List Nat := cutL (U.kL m D i) (fb_ct (D.ax 1 i) 64 + 1)
theorem s_layChildren (h : PCh S c z m D U) (hi : i < D.n) (hnd : (U.KL m D i).Nodup)
    (hpar : ∀ j, D.ax 1 i j = true → U.tk U.n (D.ord j) = false → c.1 160 (D.ord j) = nI (D.ord i)) :
    ∃ c', f_X11_layChildren 155 (nI (D.ord i)) (nI (fb_ct (D.ax 1 i) 64)) (tc_mk S c) = some (tc_mk S c') ∧ LayK c c' (D.ord i) (U.KL m D i) := by
  have h64 := fb_ct_le (D.ax 1 i) 64
  obtain ⟨y, y1, y2⟩ := tc_run (B := f_X11_layChildren_b5 155 (nI (D.ord i)) (nI (fb_ct (D.ax 1 i) 64))) (fb_ct (D.ax 1 i) 64 + 1)
    (fun p y => (nI (cutL (U.kL m D i) p).length, nI p, tc_mk S y)) (fun p y => LayK c y (D.ord i) (cutL (U.kL m D i) p)) (fun y => tc_mk S y) (by omega) (fun p y hp hy => by
      have e0 : ¬ nI p > nI (fb_ct (D.ax 1 i) 64) := nI_nlt (by omega) (by omega)
      have hpre : cutL (U.kL m D i) (p + 1) <+: U.KL m D i := cutL_pre (show p + 1 ≤ _ from hp)
      have hnd2 := hpre.sublist.nodup hnd
      rw [cutL_succ] at hnd2
      unfold Ups.kL at hnd2
      rw [← List.append_assoc] at hnd2
      obtain ⟨w, w1, w2⟩ := h.at14 hi hy (show p < 100 by omega) (List.nodup_append.mp hnd2).1 (nI (fb_ct (D.ax 1 i) 64))
      obtain ⟨w', v1, v2⟩ := h.at147 hi w2 (show p < 100 by omega) hnd2 hpar (nI (fb_ct (D.ax 1 i) 64))
      have hcat : cutL (U.kL m D i) (p + 1) = (cutL (U.kL m D i) p ++ cutL (U.kn m D i p) U.n) ++ U.ko D i p := by
        rw [cutL_succ, List.append_assoc]; rfl
      refine ⟨w', ?_, by rw [hcat]; exact v2⟩
      rw [hcat]
      simp (maxSteps := 3000000) (disch := omega) only [Option.bind_some, tc_bs, tq_let, tc_I1, tc_I2, tc_J1, tc_J2, tc_J3, tc_F1, tc_F2, tc_F3, tc_F4, tc_G1, tc_G2, tc_G3, tc_G4, tc_G5, tc_us, tc_un, s_one, s_holds, s_J13_bitCount, bz_bI, f_X11_layChildren_b5, e0, w1, v1, if_false, nI_1]) (fun y hy => by
      have e2 : nI (fb_ct (D.ax 1 i) 64 + 1) > nI (fb_ct (D.ax 1 i) 64) := nI_lt (by omega) (by omega)
      simp (maxSteps := 3000000) (disch := omega) only [Option.bind_some, tc_bs, tq_let, tc_I1, tc_I2, tc_J1, tc_J2, tc_J3, tc_F1, tc_F2, tc_F3, tc_F4, tc_G1, tc_G2, tc_G3, tc_G4, tc_G5, tc_us, tc_un, s_one, s_holds, s_J13_bitCount, bz_bI, f_X11_layChildren_b5, e2, if_true]) (x := c) (LayK.nil c _)
  refine ⟨y, ?_, y2⟩
  have y1 : tq_loop (f_X11_layChildren_b5 155 (nI (D.ord i)) (nI (fb_ct (D.ax 1 i) 64))) tq_N ((0 : Int32), (0 : Int32), tc_mk S c) = some (tc_mk S y) := y1
  unfold f_X11_layChildren
  rw [y1, Option.bind_some]
theorem s_X11_countBack (h : PCh S c z m D U) (hi : i < D.n) : f_X11_countBack 155 (nI (D.ord i)) (tc_mk S c) = some (nI (fb_ct (D.ax 1 i) 64)) := by
  obtain ⟨hM, ⟨hw, hu, hok, hr⟩, hUR, h1, ⟨r1, r2, r3⟩, r4⟩ := h
  have hE60 := D.ord_lt hw hi
  have hn60 := D.n_le hw
  have W := tc_iter (B := f_X11_countBack_b4 155 (nI (D.ord i)) (tc_mk S c)) 60 (fun k => (nI (fb_ct (fun v => decide (c.1 173 v ≠ 0 ∧ c.1 171 v = nI (D.ord i) ∧ c.1 156 v ≠ 2)) k), nI k)) (e := nI (fb_ct (fun v => decide (c.1 173 v ≠ 0 ∧ c.1 171 v = nI (D.ord i) ∧ c.1 156 v ≠ 2)) 60)) (fun k hk => ?_) ?_ (by unfold tq_N; omega)
  · have W : tq_loop (f_X11_countBack_b4 155 (nI (D.ord i)) (tc_mk S c)) tq_N ((0 : Int32), (0 : Int32)) = some (nI (fb_ct (fun v => decide (c.1 173 v ≠ 0 ∧ c.1 171 v = nI (D.ord i) ∧ c.1 156 v ≠ 2)) 60)) := W
    unfold f_X11_countBack
    rw [W, Option.bind_some]
    have e1 : fb_ct (fun v => decide (c.1 173 v ≠ 0 ∧ c.1 171 v = nI (D.ord i) ∧ c.1 156 v ≠ 2)) 60 = fb_ct (fun j => decide (c.1 173 (D.ord j) ≠ 0 ∧ c.1 171 (D.ord j) = nI (D.ord i) ∧ c.1 156 (D.ord j) ≠ 2)) D.n := by
      refine ct_img (fun j hj => D.ord_lt hw hj) (fun j j' a b e => D.ord_inj hw a b e) fun v hv hp => ?_
      have hp := of_decide_eq_true hp
      refine Classical.byContradiction fun hno => hp.1 (r3 v hv fun i hi e => hno ⟨i, hi, e⟩)
    have e2 : fb_ct (D.ax 1 i) 64 = fb_ct (D.ax 1 i) D.n := ct_cut 64 (fun j hj => by
      cases e : D.ax 1 i j with
      | false => rfl
      | true => have := D.ax_lt _ _ _ e; omega) (by omega)
    rw [e1, e2]
    congr 2
    refine fb_ct_cong fun j hj => ?_
    obtain ⟨-, -, -, f4, f5⟩ := r1 j hj
    rw [f4, f5, r4 j hj]
    refine Bool.ext_iff ?_
    rw [decide_eq_true_iff, Doc.ax1]
    unfold Doc.upN
    by_cases z0 : j = 0
    · subst z0
      rw [if_pos rfl]
      constructor
      · rintro ⟨-, a, -⟩; exact absurd a.symm (nI_nm1 (by omega))
      · rintro ⟨-, a, -⟩; exact absurd a (Nat.lt_irrefl 0)
    · have hup := D.up_lt hw (Nat.pos_of_ne_zero z0) hj
      rw [if_neg z0, nI_eq (by have := D.ord_lt hw (show D.up j < D.n by omega); omega) (by omega)]
      constructor
      · rintro ⟨-, a, b⟩; exact ⟨hj, Nat.pos_of_ne_zero z0, D.ord_inj hw (by omega) hi a, b⟩
      · rintro ⟨-, -, a, b⟩; exact ⟨by decide, by rw [a], b⟩
  · have e1 : ¬ nI k ≥ 60 := nI_ge hk (by decide)
    rw [fb_ct_succ]
    by_cases q0 : c.1 173 k = 0
    · rw [if_neg (by simp [q0])]
      simp (maxSteps := 3000000) (disch := omega) only [Option.bind_some, tc_bs, tq_let, tc_I1, tc_I2, tc_J1, tc_J2, tc_J3, tc_F1, tc_F2, tc_F3, tc_F4, tc_G1, tc_G2, tc_G3, tc_G4, tc_G5, tc_us, tc_un, s_one, s_holds, s_J13_bitCount, bz_bI, f_X11_countBack_b4, hM.f, e1, q0, if_true, if_false, nI_1]
      rw [show (0 : Int32) = nI 0 from rfl, nI_add]
    · by_cases q1 : c.1 171 k = nI (D.ord i)
      · by_cases q2 : c.1 156 k = 2
        · rw [if_neg (by simp [q2])]
          simp (maxSteps := 3000000) (disch := omega) only [Option.bind_some, tc_bs, tq_let, tc_I1, tc_I2, tc_J1, tc_J2, tc_J3, tc_F1, tc_F2, tc_F3, tc_F4, tc_G1, tc_G2, tc_G3, tc_G4, tc_G5, tc_us, tc_un, s_one, s_holds, s_J13_bitCount, bz_bI, f_X11_countBack_b4, hM.f, e1, q0, q1, q2, if_true, if_false, nI_1]
          rw [show (0 : Int32) = nI 0 from rfl, nI_add]
        · rw [if_pos (by simp [q0, q1, q2])]
          simp (maxSteps := 3000000) (disch := omega) only [Option.bind_some, tc_bs, tq_let, tc_I1, tc_I2, tc_J1, tc_J2, tc_J3, tc_F1, tc_F2, tc_F3, tc_F4, tc_G1, tc_G2, tc_G3, tc_G4, tc_G5, tc_us, tc_un, s_one, s_holds, s_J13_bitCount, bz_bI, f_X11_countBack_b4, hM.f, e1, q0, q1, q2, if_true, if_false, nI_1]
      · rw [if_neg (by simp [q1])]
        simp (maxSteps := 3000000) (disch := omega) only [Option.bind_some, tc_bs, tq_let, tc_I1, tc_I2, tc_J1, tc_J2, tc_J3, tc_F1, tc_F2, tc_F3, tc_F4, tc_G1, tc_G2, tc_G3, tc_G4, tc_G5, tc_us, tc_un, s_one, s_holds, s_J13_bitCount, bz_bI, f_X11_countBack_b4, hM.f, e1, q0, q1, if_true, if_false, nI_1]
        rw [show (0 : Int32) = nI 0 from rfl, nI_add]
  · have e1 : nI 60 ≥ (60 : Int32) := Int32.le_refl _
    simp only [f_X11_countBack_b4, ↓reduceIte, e1]
end RL2
