/-! ===== printed by wip/p58/tools/gen_ref2.py: calls that throw, all of them ===== -/
theorem st_b {α β : Type} {x : Option α} {v : α} {f : α → Option β} {r : Option β} (h : x = some v) (k : f v = r) : x.bind f = r := by rw [h]; exact k
theorem st_t {α β : Type} {a v : α} {f : α → β} {r : β} (h : a = v) (k : f v = r) : tq_let a f = r := by rw [h]; exact k
theorem st_y {α : Type} {q : Prop} [Decidable q] {a b r : α} (h : q) (k : a = r) : (if q then a else b) = r := by rw [if_pos h]; exact k
theorem st_n {α : Type} {q : Prop} [Decidable q] {a b r : α} (h : ¬ q) (k : b = r) : (if q then a else b) = r := by rw [if_neg h]; exact k
section RFO
variable {S : tq_H} {c c' : tc_C} {di : DI} {D : Doc} {m : Nat} {U : Ups} {P : Pat} {H : Nat → Bool} {Z : Sma} {X : Nat → Bool} {nw : Nat} {ed : Option Nat} {nv : Nat} {vt mv : Nat → Nat} {Dv : Nat → Doc} {i j k p : Nat} {v x a2 p1 p4 p7 p8 p9 p10 b60 b1000 b42 b5 b82 b4 b3 b13 b14 b100 n1 : Int32}
set_option maxHeartbeats 8000000 in
theorem refuses_core (hC : Cor S c di D m U P H Z X nw ed nv vt mv Dv)
    (hF : GF c D P H)
    (hp1 : (if a2 - a2 / (2 : Int32) * (2 : Int32) = 0 then (1 : Int32) else (0 : Int32)) = p1)
    (e4 : (if p1 = 0 then some (nI m + (a2 - a2 / (50 : Int32) * (50 : Int32))) else some ((-1 : Int32) - (a2 - a2 / (50 : Int32) * (50 : Int32)))) = some p4)
    (e7 : (if p1 = 0 then some (nI P.n + (a2 - a2 / (50 : Int32) * (50 : Int32))) else some ((-1 : Int32) - (a2 - a2 / (50 : Int32) * (50 : Int32)))) = some p7)
    (e8 : (if p1 = 0 then ((8 : Int32) + a2) else ((-1 : Int32) - a2)) = p8)
    (e9 : (if p1 = 0 then ((6 : Int32) + a2) else ((-1 : Int32) - a2)) = p9)
    (e60 : (if p1 = 0 then ((60 : Int32) + a2) else ((-1 : Int32) - a2)) = b60)
    (e1000 : (if p1 = 0 then ((1000 : Int32) + a2) else ((-1 : Int32) - a2)) = b1000)
    (e42 : (if p1 = 0 then ((4 : Int32) + a2) else ((-2 : Int32) - a2)) = b42)
    (e5 : (if p1 = 0 then ((5 : Int32) + a2) else ((-1 : Int32) - a2)) = b5)
    (e82 : (if p1 = 0 then ((8 : Int32) + a2) else ((-2 : Int32) - a2)) = b82)
    (e4b : (if p1 = 0 then ((4 : Int32) + a2) else ((-1 : Int32) - a2)) = b4)
    (e3 : (if p1 = 0 then ((3 : Int32) + a2) else ((-1 : Int32) - a2)) = b3)
    (e13 : (if p1 = 0 then ((13 : Int32) + a2) else ((-1 : Int32) - a2)) = b13)
    (e14 : (if p1 = 0 then ((14 : Int32) + a2) else ((-1 : Int32) - a2)) = b14)
    (e100 : (if p1 = 0 then ((100 : Int32) + a2) else ((-1 : Int32) - a2)) = b100)
    (hn1 : (-1 : Int32) - a2 = n1)
    (hi : ∀ i, ¬ D.At p4 i)
    (q7 : ¬ (0 ≤ p7 ∧ p7 < nI P.n))
    (q8 : ¬ (0 ≤ p8 ∧ p8 ≤ 7))
    (q9 : ¬ (0 ≤ p9 ∧ p9 < 6))
    (q10 : ¬ (0 ≤ p9 ∧ p9 < nI nv))
    (q60 : ¬ (0 ≤ b60 ∧ b60 ≤ nI (fb_ct (D.ax 1 0) 64)))
    (q1000 : ¬ (0 ≤ b1000 ∧ b1000 ≤ 999))
    (q42 : ¬ (-1 ≤ b42 ∧ b42 ≤ 3))
    (q5 : ¬ (0 ≤ b5 ∧ b5 < nI nw))
    (q82 : ¬ (-1 ≤ b82 ∧ b82 ≤ 7))
    (q4 : ¬ (0 ≤ b4 ∧ b4 < 4))
    (q3 : ¬ (0 ≤ b3 ∧ b3 ≤ 2))
    (q13 : ¬ b13 = 12)
    (q13b : ¬ (0 ≤ b13 ∧ b13 ≤ 12))
    (q14 : ¬ (0 ≤ b14 ∧ b14 ≤ 13))
    (q100 : ¬ (0 ≤ b100 ∧ b100 ≤ 99))
    (qn1 : n1 < 0)
    (q601 : ¬ (0 ≤ (60 : Int32) + a2 ∧ (60 : Int32) + a2 < nI 60))
    (r6 : 0 ≤ a2 - a2 / (6 : Int32) * (6 : Int32) ∧ a2 - a2 / (6 : Int32) * (6 : Int32) < 6)
    (rk : 0 ≤ a2 - a2 / (1000 : Int32) * (1000 : Int32) ∧ a2 - a2 / (1000 : Int32) * (1000 : Int32) ≤ 999)
    (hown : ∀ n, 0 < n → n ≤ 20 → ∃ p, p < n ∧ (a2 / (50 : Int32)) - (a2 / (50 : Int32)) / nI n * nI n = nI p) :
    ∃ c', f_G_refuses 0 (nI U.n) a2 (tc_mk S c) = some (1, tc_mk S c') ∧ Cor S c' di D m U P H Z X nw ed nv vt mv Dv ∧ GF c' D P H := by
  have hw := hC.gt.1.1
  have h0 : D.At 0 0 := ⟨D.n_pos hw, by rw [D.ord_0 hw]; rfl⟩
  have n10 : ¬ (1 : Int32) = 0 := by decide
  have z1 : tq_bz 1 = some 1 := rfl
  have i0 := rd_is hC
  have md := rd_made hC
  have pt := rd_paths hC
  have qn : ¬ n1 ≥ 0 := Int32.not_le.mpr qn1
  have qn2 : ¬ 0 ≤ n1 := Int32.not_le.mpr qn1
  have s0 := ng_element_n hC (x2 := 0) (x3 := 0) hi
  have s1 := ng_element_p hC (x2 := b60) (x3 := 0) h0 q60
  have s2 := ng_element_a hC h0 q8
  have s3 := ng_text_a hC h0 q1000
  have s4 := ng_attribute_a hC (x3 := 0) h0 q8
  have s5 := ng_attribute_n hC (x2 := 0) (x3 := 0) hi
  have s6 := ng_remove_n hC hi
  have s7 := ng_remove_0 hC h0
  have s8 := ng_rename_n hC (x2 := 0) hi
  have s9 := ng_rename_a hC h0 q8
  have s10 := ng_revalue_n hC (x2 := 0) hi
  have s11 := ng_revalue_a hC h0 q1000
  have s12 := ng_revalue_0 hC h0 rk
  have s13 := ng_move_n hC (x2 := 0) (x3 := 0) hi
  have s14 := ng_move_p hC (x3 := 0) h0 hi
  have s15 := ng_move_0 hC h0
  have s16 := ng_declare_n hC (x2 := 0) hi
  have s17 := ng_declare_a hC h0 q42
  have s18 := ng_kind_n hC hi
  have s19 := ng_name_n hC hi
  have s20 := ng_value_n hC hi
  have s21 := ng_parent_n hC hi
  have s22 := ng_child_n hC (x2 := 0) hi
  have s23 := ng_child_0 hC h0 qn
  have s24 := ng_space_n hC hi
  have s25 := ng_number_n hC hi
  have s26 := ng_seen_n hC hi
  have s27 := ng_types_n hC hi
  have s28 := ng_step_q hC (x2 := 0) (x3 := 8) (x4 := -1) q7
  have s29 := ng_place_q hC (x2 := 0) (x3 := 1) q7
  have s30 := ng_last_q hC q7
  have s31 := ng_has_q hC (x2 := 0) q7
  have s32 := ng_worth_q hC (x2 := 0) (x3 := 0) (x4 := 0) q7
  obtain ⟨c1, f1, hC1, hF1⟩ := ng_found_q hC hF (x2 := 0) q7
  obtain ⟨c2, f2, hC2, hF2⟩ := ng_foundAnew_q hC1 hF1 (x2 := 0) q7
  obtain ⟨c3, f3, hC3, hF3⟩ := ng_foundAt_q hC2 hF2 (x2 := 0) q7
  obtain ⟨c4, f4, hC4, hF4⟩ := ng_ordered_q hC3 hF3 (x2 := 0) q7
  obtain ⟨c5, f5, hC5, hF5⟩ := ng_groups_q hC4 hF4 q7
  have t0 := ng_infer_q hC5 q7
  have t1 := ng_plan_q hC5 q7
  have t2 := ng_view_q hC5 q7
  have t3 := ng_hide_q hC5 q7
  have t4 := ng_viewed_q hC5 (x2 := 0) q5
  have t5 := ng_changed_q hC5 q5
  have t6 := ng_nameType_q hC5 (x2 := 0) q9
  have t7 := ng_nameType_a hC5 r6 q82
  have t8 := ng_arc_q hC5 (x2 := 0) (x3 := 0) (x4 := 0) q9
  have t9 := ng_arc_s hC5 (x3 := 0) (x4 := 0) q4
  have t10 := ng_fin_q hC5 (x2 := 0) (x3 := 1) q9
  have t11 := ng_texts_q hC5 (x2 := 1) q9
  have t12 := ng_says_q hC5 (x2 := 0) (x3 := 0) q9
  have t13 := ng_says_a hC5 (x3 := 0) r6 q8
  have t14 := ng_says_b hC5 r6 q3
  have t15 := ng_index_a hC5 q8
  have t16 := ng_ranked_n hC5 (x1 := a2 - a2 / (1000 : Int32) * (1000 : Int32)) qn2
  have t17 := ng_ranked_a hC5 q1000
  have t18 := ng_take_q hC5 q10
  have t19 := ng_distance_q hC5 (x2 := p9) q10
  have t20 := ng_odds_q hC5 (x2 := 0) (x3 := 0) q10
  have i5 := rd_is hC5
  have pt5 := rd_paths hC5
  subst hn1
  have g4 : (if p1 = 0 then (tq_is (tc_mk S c) 0 10).bind fun _ => (f_X10_made 0 (tc_mk S c)).bind fun v2 => some (v2 + (a2 - a2 / (50 : Int32) * (50 : Int32))) else some ((-1 : Int32) - (a2 - a2 / (50 : Int32) * (50 : Int32)))) = some p4 := by rw [i0, md]; exact e4
  have g7 : (if p1 = 0 then (tq_is (tc_mk S c) 0 10).bind fun _ => (f_X10_paths 0 (tc_mk S c)).bind fun v5 => some (v5 + (a2 - a2 / (50 : Int32) * (50 : Int32))) else some ((-1 : Int32) - (a2 - a2 / (50 : Int32) * (50 : Int32)))) = some p7 := by rw [i0, pt]; exact e7
  by_cases hp0 : P.n = 0
  · have w0 : nI P.n ≤ 0 := by rw [hp0]; exact Int32.le_refl _
    refine ⟨c5, ?_, hC5, hF5⟩
    unfold f_G_refuses
    refine st_t hp1 ?_
    refine st_b g4 ?_
    refine st_b g7 ?_
    refine st_t e8 ?_
    refine st_t e9 ?_
    refine st_t e9 ?_
    refine st_t (v := if nI U.n = (20 : Int32) then (1 : Int32) else (0 : Int32)) rfl ?_
    refine st_b s0 ?_
    refine st_b (v := ((1 : Int32), tc_mk S c)) ?_ ?_
    · refine st_y rfl ?_
      refine st_t e60 ?_
      refine st_b s1 ?_
      refine st_y rfl ?_
      refine st_b s2 ?_
      refine st_y rfl ?_
      refine st_t e1000 ?_
      refine st_b s3 ?_
      refine st_y rfl ?_
      refine st_b s4 ?_
      refine st_y rfl ?_
      refine st_b s5 ?_
      refine st_y rfl ?_
      by_cases hU : U.n < 20
      · refine st_y (if_neg (hC.cnt.2.1 hU)) ?_
        refine st_b s6 ?_
        refine st_y rfl ?_
        refine st_b s7 ?_
        refine st_y rfl ?_
        refine st_b s8 ?_
        refine st_y rfl ?_
        refine st_b s9 ?_
        refine st_y rfl ?_
        refine st_b s10 ?_
        refine st_y rfl ?_
        refine st_t e1000 ?_
        refine st_b s11 ?_
        refine st_y rfl ?_
        refine st_b s12 ?_
        refine st_y rfl ?_
        refine st_b s13 ?_
        refine st_y rfl ?_
        refine st_b s14 ?_
        refine st_y rfl ?_
        refine st_b s15 ?_
        refine st_y rfl ?_
        refine st_b s16 ?_
        refine st_y rfl ?_
        refine st_t e42 ?_
        refine st_b s17 ?_
        refine st_y rfl ?_
        rfl
      · refine st_n (fun z => n10 ((if_pos (hC.cnt.2.2 hU)).symm.trans z)) ?_
        refine st_b (ng_attribute_f hC h0 hU) ?_
        refine st_y rfl ?_
        refine st_b (ng_rename_f hC h0 hU) ?_
        refine st_y rfl ?_
        refine st_b (ng_declare_f hC h0 hU) ?_
        refine st_y rfl ?_
        refine st_b s6 ?_
        refine st_y rfl ?_
        refine st_b s7 ?_
        refine st_y rfl ?_
        refine st_b s8 ?_
        refine st_y rfl ?_
        refine st_b s9 ?_
        refine st_y rfl ?_
        refine st_b s10 ?_
        refine st_y rfl ?_
        refine st_t e1000 ?_
        refine st_b s11 ?_
        refine st_y rfl ?_
        refine st_b s12 ?_
        refine st_y rfl ?_
        refine st_b s13 ?_
        refine st_y rfl ?_
        refine st_b s14 ?_
        refine st_y rfl ?_
        refine st_b s15 ?_
        refine st_y rfl ?_
        refine st_b s16 ?_
        refine st_y rfl ?_
        refine st_t e42 ?_
        refine st_b s17 ?_
        refine st_y rfl ?_
        rfl
    · refine st_b (v := ((1 : Int32), tc_mk S c5)) ?_ ?_
      · refine st_n n10 ?_
        refine st_b s18 ?_
        refine st_y rfl ?_
        refine st_b s19 ?_
        refine st_y rfl ?_
        refine st_b s20 ?_
        refine st_y rfl ?_
        refine st_b s21 ?_
        refine st_y rfl ?_
        refine st_b s22 ?_
        refine st_y rfl ?_
        refine st_b s23 ?_
        refine st_y rfl ?_
        refine st_b s24 ?_
        refine st_y rfl ?_
        refine st_b s25 ?_
        refine st_y rfl ?_
        refine st_b s26 ?_
        refine st_y rfl ?_
        refine st_b s27 ?_
        refine st_y rfl ?_
        refine st_b s28 ?_
        refine st_y rfl ?_
        refine st_b s29 ?_
        refine st_y rfl ?_
        refine st_b s30 ?_
        refine st_y rfl ?_
        refine st_b s31 ?_
        refine st_y rfl ?_
        refine st_b s32 ?_
        refine st_y rfl ?_
        refine st_b f1 ?_
        refine st_y rfl ?_
        refine st_b f2 ?_
        refine st_y rfl ?_
        refine st_b f3 ?_
        refine st_y rfl ?_
        refine st_b f4 ?_
        refine st_y rfl ?_
        refine st_b f5 ?_
        refine st_y rfl ?_
        refine st_b t0 ?_
        refine st_y rfl ?_
        refine st_b t1 ?_
        refine st_y rfl ?_
        refine st_b t2 ?_
        refine st_y rfl ?_
        refine st_b t3 ?_
        refine st_y rfl ?_
        refine st_t e5 ?_
        refine st_b t4 ?_
        refine st_y rfl ?_
        refine st_t e5 ?_
        refine st_b t5 ?_
        refine st_y rfl ?_
        rfl
      · refine st_b (v := ((1 : Int32), tc_mk S c5)) ?_ ?_
        · refine st_n n10 ?_
          refine st_b t6 ?_
          refine st_y rfl ?_
          refine st_t e82 ?_
          refine st_b t7 ?_
          refine st_y rfl ?_
          refine st_b t8 ?_
          refine st_y rfl ?_
          refine st_t e4b ?_
          refine st_b t9 ?_
          refine st_y rfl ?_
          refine st_b t10 ?_
          refine st_y rfl ?_
          refine st_b t11 ?_
          refine st_y rfl ?_
          refine st_b t12 ?_
          refine st_y rfl ?_
          refine st_b t13 ?_
          refine st_y rfl ?_
          refine st_t e3 ?_
          refine st_b t14 ?_
          refine st_y rfl ?_
          refine st_b t15 ?_
          refine st_y rfl ?_
          refine st_b t16 ?_
          refine st_y rfl ?_
          refine st_t e1000 ?_
          refine st_b t17 ?_
          refine st_y rfl ?_
          refine st_b t18 ?_
          refine st_y rfl ?_
          refine st_b t19 ?_
          refine st_y rfl ?_
          refine st_b t20 ?_
          refine st_y rfl ?_
          rfl
        · refine st_b (v := ((1 : Int32), tc_mk S c5)) ?_ ?_
          · refine st_n n10 ?_
            refine st_b i5 ?_
            refine st_b pt5 ?_
            refine st_y w0 ?_
            rfl
          · refine st_b z1 ?_
            rfl
  · have h20 := hC.gp.2.2.1
    have w0 : ¬ nI P.n ≤ 0 := nI_nle (by omega) (by omega)
    have wz : tq_nz (nI P.n) = some () := nz_nI (by omega) (by omega)
    obtain ⟨p, hp, ho⟩ := hown P.n (by omega) h20
    have o0 := ng_step_l hC5 (x3 := 8) hp
    have o1 := ng_step_a hC5 (x3 := 8) (x4 := -1) hp q13 q13b
    have o2 := ng_step_t hC5 (x4 := -1) hp q14
    have o3 := ng_step_b hC5 hp
    have o4 := ng_place_a hC5 (x3 := 1) hp q3
    have o5 := ng_place_b hC5 hp q100
    have o6 := ng_has_l hC5 hp
    have o7 := ng_worth_l hC5 (x3 := 0) (x4 := 0) hp
    obtain ⟨c6, f6, hC6, hF6⟩ := ng_found_n hC5 hF5 hp hi
    obtain ⟨c7, f7, hC7, hF7⟩ := ng_foundAt_p hC6 hF6 hp (x2 := (-1 : Int32) - a2) (fun z => qn2 z.1)
    obtain ⟨c8, f8, hC8, hF8⟩ := ng_ordered_p hC7 hF7 hp q601
    have i8 := rd_is hC8
    have pt8 := rd_paths hC8
    refine ⟨c8, ?_, hC8, hF8⟩
    have x8 : nI P.n - (1 : Int32) = nI (P.n - 1) := by rw [show (1 : Int32) = nI 1 from rfl]; exact pk_sub (by omega)
    unfold f_G_refuses
    by_cases hl : p + 1 = P.n
    · have y8 : nI p = nI P.n - (1 : Int32) := by rw [x8, show P.n - 1 = p by omega]
      refine st_t hp1 ?_
      refine st_b g4 ?_
      refine st_b g7 ?_
      refine st_t e8 ?_
      refine st_t e9 ?_
      refine st_t e9 ?_
      refine st_t (v := if nI U.n = (20 : Int32) then (1 : Int32) else (0 : Int32)) rfl ?_
      refine st_b s0 ?_
      refine st_b (v := ((1 : Int32), tc_mk S c)) ?_ ?_
      · refine st_y rfl ?_
        refine st_t e60 ?_
        refine st_b s1 ?_
        refine st_y rfl ?_
        refine st_b s2 ?_
        refine st_y rfl ?_
        refine st_t e1000 ?_
        refine st_b s3 ?_
        refine st_y rfl ?_
        refine st_b s4 ?_
        refine st_y rfl ?_
        refine st_b s5 ?_
        refine st_y rfl ?_
        by_cases hU : U.n < 20
        · refine st_y (if_neg (hC.cnt.2.1 hU)) ?_
          refine st_b s6 ?_
          refine st_y rfl ?_
          refine st_b s7 ?_
          refine st_y rfl ?_
          refine st_b s8 ?_
          refine st_y rfl ?_
          refine st_b s9 ?_
          refine st_y rfl ?_
          refine st_b s10 ?_
          refine st_y rfl ?_
          refine st_t e1000 ?_
          refine st_b s11 ?_
          refine st_y rfl ?_
          refine st_b s12 ?_
          refine st_y rfl ?_
          refine st_b s13 ?_
          refine st_y rfl ?_
          refine st_b s14 ?_
          refine st_y rfl ?_
          refine st_b s15 ?_
          refine st_y rfl ?_
          refine st_b s16 ?_
          refine st_y rfl ?_
          refine st_t e42 ?_
          refine st_b s17 ?_
          refine st_y rfl ?_
          rfl
        · refine st_n (fun z => n10 ((if_pos (hC.cnt.2.2 hU)).symm.trans z)) ?_
          refine st_b (ng_attribute_f hC h0 hU) ?_
          refine st_y rfl ?_
          refine st_b (ng_rename_f hC h0 hU) ?_
          refine st_y rfl ?_
          refine st_b (ng_declare_f hC h0 hU) ?_
          refine st_y rfl ?_
          refine st_b s6 ?_
          refine st_y rfl ?_
          refine st_b s7 ?_
          refine st_y rfl ?_
          refine st_b s8 ?_
          refine st_y rfl ?_
          refine st_b s9 ?_
          refine st_y rfl ?_
          refine st_b s10 ?_
          refine st_y rfl ?_
          refine st_t e1000 ?_
          refine st_b s11 ?_
          refine st_y rfl ?_
          refine st_b s12 ?_
          refine st_y rfl ?_
          refine st_b s13 ?_
          refine st_y rfl ?_
          refine st_b s14 ?_
          refine st_y rfl ?_
          refine st_b s15 ?_
          refine st_y rfl ?_
          refine st_b s16 ?_
          refine st_y rfl ?_
          refine st_t e42 ?_
          refine st_b s17 ?_
          refine st_y rfl ?_
          rfl
      · refine st_b (v := ((1 : Int32), tc_mk S c5)) ?_ ?_
        · refine st_n n10 ?_
          refine st_b s18 ?_
          refine st_y rfl ?_
          refine st_b s19 ?_
          refine st_y rfl ?_
          refine st_b s20 ?_
          refine st_y rfl ?_
          refine st_b s21 ?_
          refine st_y rfl ?_
          refine st_b s22 ?_
          refine st_y rfl ?_
          refine st_b s23 ?_
          refine st_y rfl ?_
          refine st_b s24 ?_
          refine st_y rfl ?_
          refine st_b s25 ?_
          refine st_y rfl ?_
          refine st_b s26 ?_
          refine st_y rfl ?_
          refine st_b s27 ?_
          refine st_y rfl ?_
          refine st_b s28 ?_
          refine st_y rfl ?_
          refine st_b s29 ?_
          refine st_y rfl ?_
          refine st_b s30 ?_
          refine st_y rfl ?_
          refine st_b s31 ?_
          refine st_y rfl ?_
          refine st_b s32 ?_
          refine st_y rfl ?_
          refine st_b f1 ?_
          refine st_y rfl ?_
          refine st_b f2 ?_
          refine st_y rfl ?_
          refine st_b f3 ?_
          refine st_y rfl ?_
          refine st_b f4 ?_
          refine st_y rfl ?_
          refine st_b f5 ?_
          refine st_y rfl ?_
          refine st_b t0 ?_
          refine st_y rfl ?_
          refine st_b t1 ?_
          refine st_y rfl ?_
          refine st_b t2 ?_
          refine st_y rfl ?_
          refine st_b t3 ?_
          refine st_y rfl ?_
          refine st_t e5 ?_
          refine st_b t4 ?_
          refine st_y rfl ?_
          refine st_t e5 ?_
          refine st_b t5 ?_
          refine st_y rfl ?_
          rfl
        · refine st_b (v := ((1 : Int32), tc_mk S c5)) ?_ ?_
          · refine st_n n10 ?_
            refine st_b t6 ?_
            refine st_y rfl ?_
            refine st_t e82 ?_
            refine st_b t7 ?_
            refine st_y rfl ?_
            refine st_b t8 ?_
            refine st_y rfl ?_
            refine st_t e4b ?_
            refine st_b t9 ?_
            refine st_y rfl ?_
            refine st_b t10 ?_
            refine st_y rfl ?_
            refine st_b t11 ?_
            refine st_y rfl ?_
            refine st_b t12 ?_
            refine st_y rfl ?_
            refine st_b t13 ?_
            refine st_y rfl ?_
            refine st_t e3 ?_
            refine st_b t14 ?_
            refine st_y rfl ?_
            refine st_b t15 ?_
            refine st_y rfl ?_
            refine st_b t16 ?_
            refine st_y rfl ?_
            refine st_t e1000 ?_
            refine st_b t17 ?_
            refine st_y rfl ?_
            refine st_b t18 ?_
            refine st_y rfl ?_
            refine st_b t19 ?_
            refine st_y rfl ?_
            refine st_b t20 ?_
            refine st_y rfl ?_
            rfl
          · refine st_b (v := ((1 : Int32), tc_mk S c8)) ?_ ?_
            · refine st_n n10 ?_
              refine st_b i5 ?_
              refine st_b pt5 ?_
              refine st_n w0 ?_
              refine st_b i5 ?_
              refine st_b pt5 ?_
              refine st_b wz ?_
              refine st_t ho ?_
              refine st_b o0 ?_
              refine st_b (v := ((1 : Int32), tc_mk S c8)) ?_ ?_
              · refine st_y rfl ?_
                refine st_t e13 ?_
                refine st_b o1 ?_
                refine st_y rfl ?_
                refine st_t e14 ?_
                refine st_b o2 ?_
                refine st_y rfl ?_
                refine st_b o3 ?_
                refine st_y rfl ?_
                refine st_t e3 ?_
                refine st_b o4 ?_
                refine st_y rfl ?_
                refine st_t e100 ?_
                refine st_b o5 ?_
                refine st_y rfl ?_
                refine st_b o6 ?_
                refine st_y rfl ?_
                refine st_b o7 ?_
                refine st_y rfl ?_
                refine st_b f6 ?_
                refine st_y rfl ?_
                refine st_b f7 ?_
                refine st_y rfl ?_
                refine st_b f8 ?_
                refine st_y rfl ?_
                refine st_b i8 ?_
                refine st_b pt8 ?_
                refine st_y y8 ?_
                rfl
              · rfl
            · refine st_b z1 ?_
              rfl
    · have y8 : ¬ nI p = nI P.n - (1 : Int32) := fun z => by
        rw [x8] at z
        have := (nI_eq (by omega) (by omega)).mp z
        omega
      have o20 := ng_step_s hC8 hp hl
      have o21 := ng_last_s hC8 hp hl
      refine st_t hp1 ?_
      refine st_b g4 ?_
      refine st_b g7 ?_
      refine st_t e8 ?_
      refine st_t e9 ?_
      refine st_t e9 ?_
      refine st_t (v := if nI U.n = (20 : Int32) then (1 : Int32) else (0 : Int32)) rfl ?_
      refine st_b s0 ?_
      refine st_b (v := ((1 : Int32), tc_mk S c)) ?_ ?_
      · refine st_y rfl ?_
        refine st_t e60 ?_
        refine st_b s1 ?_
        refine st_y rfl ?_
        refine st_b s2 ?_
        refine st_y rfl ?_
        refine st_t e1000 ?_
        refine st_b s3 ?_
        refine st_y rfl ?_
        refine st_b s4 ?_
        refine st_y rfl ?_
        refine st_b s5 ?_
        refine st_y rfl ?_
        by_cases hU : U.n < 20
        · refine st_y (if_neg (hC.cnt.2.1 hU)) ?_
          refine st_b s6 ?_
          refine st_y rfl ?_
          refine st_b s7 ?_
          refine st_y rfl ?_
          refine st_b s8 ?_
          refine st_y rfl ?_
          refine st_b s9 ?_
          refine st_y rfl ?_
          refine st_b s10 ?_
          refine st_y rfl ?_
          refine st_t e1000 ?_
          refine st_b s11 ?_
          refine st_y rfl ?_
          refine st_b s12 ?_
          refine st_y rfl ?_
          refine st_b s13 ?_
          refine st_y rfl ?_
          refine st_b s14 ?_
          refine st_y rfl ?_
          refine st_b s15 ?_
          refine st_y rfl ?_
          refine st_b s16 ?_
          refine st_y rfl ?_
          refine st_t e42 ?_
          refine st_b s17 ?_
          refine st_y rfl ?_
          rfl
        · refine st_n (fun z => n10 ((if_pos (hC.cnt.2.2 hU)).symm.trans z)) ?_
          refine st_b (ng_attribute_f hC h0 hU) ?_
          refine st_y rfl ?_
          refine st_b (ng_rename_f hC h0 hU) ?_
          refine st_y rfl ?_
          refine st_b (ng_declare_f hC h0 hU) ?_
          refine st_y rfl ?_
          refine st_b s6 ?_
          refine st_y rfl ?_
          refine st_b s7 ?_
          refine st_y rfl ?_
          refine st_b s8 ?_
          refine st_y rfl ?_
          refine st_b s9 ?_
          refine st_y rfl ?_
          refine st_b s10 ?_
          refine st_y rfl ?_
          refine st_t e1000 ?_
          refine st_b s11 ?_
          refine st_y rfl ?_
          refine st_b s12 ?_
          refine st_y rfl ?_
          refine st_b s13 ?_
          refine st_y rfl ?_
          refine st_b s14 ?_
          refine st_y rfl ?_
          refine st_b s15 ?_
          refine st_y rfl ?_
          refine st_b s16 ?_
          refine st_y rfl ?_
          refine st_t e42 ?_
          refine st_b s17 ?_
          refine st_y rfl ?_
          rfl
      · refine st_b (v := ((1 : Int32), tc_mk S c5)) ?_ ?_
        · refine st_n n10 ?_
          refine st_b s18 ?_
          refine st_y rfl ?_
          refine st_b s19 ?_
          refine st_y rfl ?_
          refine st_b s20 ?_
          refine st_y rfl ?_
          refine st_b s21 ?_
          refine st_y rfl ?_
          refine st_b s22 ?_
          refine st_y rfl ?_
          refine st_b s23 ?_
          refine st_y rfl ?_
          refine st_b s24 ?_
          refine st_y rfl ?_
          refine st_b s25 ?_
          refine st_y rfl ?_
          refine st_b s26 ?_
          refine st_y rfl ?_
          refine st_b s27 ?_
          refine st_y rfl ?_
          refine st_b s28 ?_
          refine st_y rfl ?_
          refine st_b s29 ?_
          refine st_y rfl ?_
          refine st_b s30 ?_
          refine st_y rfl ?_
          refine st_b s31 ?_
          refine st_y rfl ?_
          refine st_b s32 ?_
          refine st_y rfl ?_
          refine st_b f1 ?_
          refine st_y rfl ?_
          refine st_b f2 ?_
          refine st_y rfl ?_
          refine st_b f3 ?_
          refine st_y rfl ?_
          refine st_b f4 ?_
          refine st_y rfl ?_
          refine st_b f5 ?_
          refine st_y rfl ?_
          refine st_b t0 ?_
          refine st_y rfl ?_
          refine st_b t1 ?_
          refine st_y rfl ?_
          refine st_b t2 ?_
          refine st_y rfl ?_
          refine st_b t3 ?_
          refine st_y rfl ?_
          refine st_t e5 ?_
          refine st_b t4 ?_
          refine st_y rfl ?_
          refine st_t e5 ?_
          refine st_b t5 ?_
          refine st_y rfl ?_
          rfl
        · refine st_b (v := ((1 : Int32), tc_mk S c5)) ?_ ?_
          · refine st_n n10 ?_
            refine st_b t6 ?_
            refine st_y rfl ?_
            refine st_t e82 ?_
            refine st_b t7 ?_
            refine st_y rfl ?_
            refine st_b t8 ?_
            refine st_y rfl ?_
            refine st_t e4b ?_
            refine st_b t9 ?_
            refine st_y rfl ?_
            refine st_b t10 ?_
            refine st_y rfl ?_
            refine st_b t11 ?_
            refine st_y rfl ?_
            refine st_b t12 ?_
            refine st_y rfl ?_
            refine st_b t13 ?_
            refine st_y rfl ?_
            refine st_t e3 ?_
            refine st_b t14 ?_
            refine st_y rfl ?_
            refine st_b t15 ?_
            refine st_y rfl ?_
            refine st_b t16 ?_
            refine st_y rfl ?_
            refine st_t e1000 ?_
            refine st_b t17 ?_
            refine st_y rfl ?_
            refine st_b t18 ?_
            refine st_y rfl ?_
            refine st_b t19 ?_
            refine st_y rfl ?_
            refine st_b t20 ?_
            refine st_y rfl ?_
            rfl
          · refine st_b (v := ((1 : Int32), tc_mk S c8)) ?_ ?_
            · refine st_n n10 ?_
              refine st_b i5 ?_
              refine st_b pt5 ?_
              refine st_n w0 ?_
              refine st_b i5 ?_
              refine st_b pt5 ?_
              refine st_b wz ?_
              refine st_t ho ?_
              refine st_b o0 ?_
              refine st_b (v := ((1 : Int32), tc_mk S c8)) ?_ ?_
              · refine st_y rfl ?_
                refine st_t e13 ?_
                refine st_b o1 ?_
                refine st_y rfl ?_
                refine st_t e14 ?_
                refine st_b o2 ?_
                refine st_y rfl ?_
                refine st_b o3 ?_
                refine st_y rfl ?_
                refine st_t e3 ?_
                refine st_b o4 ?_
                refine st_y rfl ?_
                refine st_t e100 ?_
                refine st_b o5 ?_
                refine st_y rfl ?_
                refine st_b o6 ?_
                refine st_y rfl ?_
                refine st_b o7 ?_
                refine st_y rfl ?_
                refine st_b f6 ?_
                refine st_y rfl ?_
                refine st_b f7 ?_
                refine st_y rfl ?_
                refine st_b f8 ?_
                refine st_y rfl ?_
                refine st_b i8 ?_
                refine st_b pt8 ?_
                refine st_n y8 ?_
                refine st_b o20 ?_
                refine st_y rfl ?_
                refine st_b o21 ?_
                refine st_y rfl ?_
                rfl
              · rfl
            · refine st_b z1 ?_
              rfl
end RFO
section RFN
variable {S : tq_H} {c c' : tc_C} {di : DI} {D : Doc} {m : Nat} {U : Ups} {P : Pat} {H : Nat → Bool} {Z : Sma} {X : Nat → Bool} {nw : Nat} {ed : Option Nat} {nv : Nat} {vt mv : Nat → Nat} {Dv : Nat → Doc} {i j k p n d : Nat} {v x : Int32}
theorem nmod (hj : j < 2 ^ 31) (hd : 0 < d) (hd2 : d < 2 ^ 31) : nI j - nI j / nI d * nI d = nI (j % d) := by
  have h1 := Nat.div_add_mod j d
  have h2 : d * (j / d) = j / d * d := Nat.mul_comm _ _
  rw [pk_div hj hd hd2, nI_mul, pk_sub (by omega)]
  congr 1
  omega
theorem neg_toInt (a : Nat) (ha : a ≤ 4) (hk : k < 1000000) {y : Int32} (hy : y.toInt = -(a : Int)) : (y - nI k).toInt = -(a : Int) - (k : Int) := by
  rw [Int32.toInt_sub, hy, nI_toInt (by omega)]
  simp only [Int.bmod]
  split <;> omega
theorem neg1_k (hk : k < 1000000) : (-1 : Int32) - nI k < 0 := by
  rw [Int32.lt_iff_toInt_lt, neg_toInt 1 (by omega) hk (by decide)]
  show -((1 : Nat) : Int) - (k : Int) < (0 : Int32).toInt
  rw [show (0 : Int32).toInt = 0 by decide]
  omega
theorem neg2_k (hk : k < 1000000) : (-2 : Int32) - nI k < -1 := by
  rw [Int32.lt_iff_toInt_lt, neg_toInt 2 (by omega) hk (by decide)]
  show -((2 : Nat) : Int) - (k : Int) < (-1 : Int32).toInt
  rw [show (-1 : Int32).toInt = -1 by decide]
  omega
theorem no_neg {q : Prop} (h : x < 0) : ¬ (0 ≤ x ∧ q) := fun z => Int32.not_lt.mpr z.1 h
theorem no_big (h : n < k) (hk : k < 2 ^ 31) {q : Prop} : ¬ (q ∧ nI k ≤ nI n) := fun z => Int32.not_lt.mpr z.2 (nI_lt h hk)
theorem no_big2 (h : n ≤ k) (hk : k < 2 ^ 31) {q : Prop} : ¬ (q ∧ nI k < nI n) := fun z => Int32.not_lt.mpr (nI_le h hk) z.2
theorem at_neg (h : x < 0) (hw : D.wf) : ∀ i, ¬ D.At x i := fun i ⟨a, b⟩ => by
  have := D.ord_lt hw a
  rw [b] at h
  exact nI_neg1 (by omega) h
theorem ct_kids (hw : D.wf) : fb_ct (D.ax 1 0) 64 ≤ 59 := by
  have hn := D.n_le hw
  have h1 := fb_ct_split (D.ax 1 0) 60 4
  have h3 : fb_ct (fun k => D.ax 1 0 (60 + k)) 4 = 0 := fb_ct_zero.mpr fun k _ => by
    cases e : D.ax 1 0 (60 + k) with
    | false => rfl
    | true => have := D.ax_lt 1 0 _ e; omega
  have h4 : fb_ct (D.ax 1 0) 64 = fb_ct (D.ax 1 0) (60 + 4) := rfl
  have h5 := fb_ct_split (D.ax 1 0) 1 59
  have h6 := fb_ct_le (fun k => D.ax 1 0 (1 + k)) 59
  have h7 : fb_ct (D.ax 1 0) 1 = 0 := fb_ct_zero.mpr fun k hk => by
    cases e : D.ax 1 0 k with
    | false => rfl
    | true => have := (Doc.ax1.mp e).2.1; omega
  have h8 : fb_ct (D.ax 1 0) 60 = fb_ct (D.ax 1 0) (1 + 59) := rfl
  omega
theorem refuses_ok (hC : Cor S c di D m U P H Z X nw ed nv vt mv Dv) (hF : GF c D P H) (hj : j < 10000) : ∃ c', f_G_refuses 0 (nI U.n) (nI j) (tc_mk S c) = some (1, tc_mk S c') ∧ Cor S c' di D m U P H Z X nw ed nv vt mv Dv ∧ GF c' D P H := by
  have hw := hC.gt.1.1
  have m60 := hC.gt.2.2.1.1
  have hord := hC.gt.2.2.1.2.1
  have p20 := hC.gp.2.2.1
  have nv6 := hC.gk.2.2.1
  have nw5 := hC.gv.2.2.1
  have ck := ct_kids hw
  have d2 : nI j - nI j / (2 : Int32) * (2 : Int32) = nI (j % 2) := nmod (d := 2) (by omega) (by decide) (by decide)
  have d50 : nI j - nI j / (50 : Int32) * (50 : Int32) = nI (j % 50) := nmod (d := 50) (by omega) (by decide) (by decide)
  have d6 : nI j - nI j / (6 : Int32) * (6 : Int32) = nI (j % 6) := nmod (d := 6) (by omega) (by decide) (by decide)
  have d1000 : nI j - nI j / (1000 : Int32) * (1000 : Int32) = nI (j % 1000) := nmod (d := 1000) (by omega) (by decide) (by decide)
  have q50 : nI j / (50 : Int32) = nI (j / 50) := pk_div (d := 50) (by omega) (by decide) (by decide)
  have r6 : 0 ≤ nI (j % 6) ∧ nI (j % 6) < 6 := ⟨nI_pos' (by omega), nI_lt (show j % 6 < 6 by omega) (by decide)⟩
  have rk : 0 ≤ nI (j % 1000) ∧ nI (j % 1000) ≤ 999 := ⟨nI_pos' (by omega), nI_le (show j % 1000 ≤ 999 by omega) (by decide)⟩
  have a60 : (60 : Int32) + nI j = nI (60 + j) := nI_add 60 j
  have q601 : ¬ (0 ≤ (60 : Int32) + nI j ∧ (60 : Int32) + nI j < nI 60) := by rw [a60]; exact no_big2 (by omega) (by omega)
  have hown : ∀ n, 0 < n → n ≤ 20 → ∃ p, p < n ∧ (nI j / (50 : Int32)) - (nI j / (50 : Int32)) / nI n * nI n = nI p := fun n h1 h2 => ⟨j / 50 % n, Nat.mod_lt _ h1, by rw [q50]; exact nmod (by omega) h1 (by omega)⟩
  have l1 := neg1_k (k := j) (by omega)
  rw [← d6] at r6
  rw [← d1000] at rk
  by_cases hl : j % 2 = 0
  · have l50 := neg1_k (k := j % 50) (by omega)
    have l2 := neg2_k (k := j) (by omega)
    have n10 : ¬ (1 : Int32) = 0 := by decide
    refine refuses_core hC hF (p1 := 1) (p4 := ((-1 : Int32) - nI (j % 50))) (p7 := ((-1 : Int32) - nI (j % 50))) (p8 := ((-1 : Int32) - nI j)) (p9 := ((-1 : Int32) - nI j)) (b60 := ((-1 : Int32) - nI j)) (b1000 := ((-1 : Int32) - nI j)) (b42 := ((-2 : Int32) - nI j)) (b5 := ((-1 : Int32) - nI j)) (b82 := ((-2 : Int32) - nI j)) (b4 := ((-1 : Int32) - nI j)) (b3 := ((-1 : Int32) - nI j)) (b13 := ((-1 : Int32) - nI j)) (b14 := ((-1 : Int32) - nI j)) (b100 := ((-1 : Int32) - nI j)) (n1 := ((-1 : Int32) - nI j)) (by rw [d2, hl] <;> rfl) (by rw [if_neg n10, d50]) (by rw [if_neg n10, d50]) (if_neg n10) (if_neg n10) (if_neg n10) (if_neg n10) (if_neg n10) (if_neg n10) (if_neg n10) (if_neg n10) (if_neg n10) (if_neg n10) (if_neg n10) (if_neg n10) rfl (at_neg l50 hw) (fun z => Int32.not_lt.mpr z.1 l50) (fun z => Int32.not_lt.mpr z.1 l1) (fun z => Int32.not_lt.mpr z.1 l1) (fun z => Int32.not_lt.mpr z.1 l1) (fun z => Int32.not_lt.mpr z.1 l1) (fun z => Int32.not_lt.mpr z.1 l1) (fun z => Int32.not_lt.mpr z.1 l2) (fun z => Int32.not_lt.mpr z.1 l1) (fun z => Int32.not_lt.mpr z.1 l2) (fun z => Int32.not_lt.mpr z.1 l1) (fun z => Int32.not_lt.mpr z.1 l1) (fun z => ?_) (fun z => Int32.not_lt.mpr z.1 l1) (fun z => Int32.not_lt.mpr z.1 l1) (fun z => Int32.not_lt.mpr z.1 l1) l1 q601 r6 rk hown
    rw [z] at l1
    exact absurd l1 (by decide)
  · have h1 : j % 2 = 1 := by omega
    have ad : ∀ k : Nat, nI k + nI j = nI (k + j) := fun k => nI_add k j
    refine refuses_core hC hF (p1 := 0) (p4 := nI (m + j % 50)) (p7 := nI (P.n + j % 50)) (p8 := nI (8 + j)) (p9 := nI (6 + j)) (b60 := nI (60 + j)) (b1000 := nI (1000 + j)) (b42 := nI (4 + j)) (b5 := nI (5 + j)) (b82 := nI (8 + j)) (b4 := nI (4 + j)) (b3 := nI (3 + j)) (b13 := nI (13 + j)) (b14 := nI (14 + j)) (b100 := nI (100 + j)) (n1 := ((-1 : Int32) - nI j)) (by rw [d2, h1] <;> rfl) (by rw [if_pos rfl, d50, nI_add]) (by rw [if_pos rfl, d50, nI_add]) (by rw [if_pos rfl]; exact ad 8) (by rw [if_pos rfl]; exact ad 6) (by rw [if_pos rfl]; exact ad 60) (by rw [if_pos rfl]; exact ad 1000) (by rw [if_pos rfl]; exact ad 4) (by rw [if_pos rfl]; exact ad 5) (by rw [if_pos rfl]; exact ad 8) (by rw [if_pos rfl]; exact ad 4) (by rw [if_pos rfl]; exact ad 3) (by rw [if_pos rfl]; exact ad 13) (by rw [if_pos rfl]; exact ad 14) (by rw [if_pos rfl]; exact ad 100) rfl (fun i ⟨a, b⟩ => ?_) (no_big2 (by omega) (by omega)) (no_big (n := 7) (by omega) (by omega)) (no_big2 (n := 6) (by omega) (by omega)) (no_big2 (by omega) (by omega)) (no_big (by omega) (by omega)) (no_big (n := 999) (by omega) (by omega)) (no_big (n := 3) (by omega) (by omega)) (no_big2 (by omega) (by omega)) (no_big (n := 7) (by omega) (by omega)) (no_big2 (n := 4) (by omega) (by omega)) (no_big (n := 2) (by omega) (by omega)) (fun z => ?_) (no_big (n := 12) (by omega) (by omega)) (no_big (n := 13) (by omega) (by omega)) (no_big (n := 99) (by omega) (by omega)) l1 q601 r6 rk hown
    · have h2 := hord i a
      have := (nI_eq (by omega) (by have := D.ord_lt hw a; omega)).mp b
      omega
    · have := (nI_eq (b := 12) (by omega) (by decide)).mp z
      omega
end RFN
