/-! ===== printed by wip/whole/tools: the law, its loop and entry ===== -/
def tq_frb (v : Value) : Bool := match v with
  | .int _ => true
  | .long _ => true
  | .null => true
  | _ => false
theorem tq_frf (ad : List Nat) : ∀ fs : List Value, fs.all tq_frb = true → tq_al (tq_vr ad) fs fs
  | [], _ => trivial
  | v :: fs, h => by
    rw [List.all_cons, Bool.and_eq_true] at h
    refine ⟨?_, tq_frf ad fs h.2⟩
    cases v with
    | int x => rfl
    | long x => rfl
    | null => rfl
    | _ => cases h.1
def f_L_law_b23 (n : Nat) (xs : Nat → Int32) (i1 i2 i3 : Nat) (s : Int32 × tq_H) : Option ((Int32 × tq_H) ⊕ (Int32 × tq_H)) := match s with
  | (y4, hh) =>
    if y4 > (Int32.ofNat n - (5 : Int32)) then
      some (.inr ((1 : Int32), hh))
    else
      (tq_sx n xs y4).bind fun x1 =>
      if (x1 &&& (63 : Int32)) = (0 : Int32) then f_L_law_c272 n xs i1 i2 i3 y4 hh else
      if (x1 &&& (63 : Int32)) = (1 : Int32) then f_L_law_c352 n xs i1 i2 i3 y4 hh else
      if (x1 &&& (63 : Int32)) = (2 : Int32) then f_L_law_c432 n xs i1 i2 i3 y4 hh else
      if (x1 &&& (63 : Int32)) = (3 : Int32) then f_L_law_c512 n xs i1 i2 i3 y4 hh else
      if (x1 &&& (63 : Int32)) = (4 : Int32) then f_L_law_c568 n xs i1 i2 i3 y4 hh else
      if (x1 &&& (63 : Int32)) = (5 : Int32) then f_L_law_c636 n xs i1 i2 i3 y4 hh else
      if (x1 &&& (63 : Int32)) = (6 : Int32) then f_L_law_c704 n xs i1 i2 i3 y4 hh else
      if (x1 &&& (63 : Int32)) = (7 : Int32) then f_L_law_c784 n xs i1 i2 i3 y4 hh else
      if (x1 &&& (63 : Int32)) = (8 : Int32) then f_L_law_c852 n xs i1 i2 i3 y4 hh else
      if (x1 &&& (63 : Int32)) = (9 : Int32) then f_L_law_c896 n xs i1 i2 i3 y4 hh else
      if (x1 &&& (63 : Int32)) = (10 : Int32) then f_L_law_c909 n xs i1 i2 i3 y4 hh else
      if (x1 &&& (63 : Int32)) = (11 : Int32) then f_L_law_c922 n xs i1 i2 i3 y4 hh else
      if (x1 &&& (63 : Int32)) = (12 : Int32) then f_L_law_c935 n xs i1 i2 i3 y4 hh else
      if (x1 &&& (63 : Int32)) = (13 : Int32) then f_L_law_c960 n xs i1 i2 i3 y4 hh else
      if (x1 &&& (63 : Int32)) = (14 : Int32) then f_L_law_c1016 n xs i1 i2 i3 y4 hh else
      if (x1 &&& (63 : Int32)) = (15 : Int32) then f_L_law_c1072 n xs i1 i2 i3 y4 hh else
      if (x1 &&& (63 : Int32)) = (16 : Int32) then f_L_law_c1128 n xs i1 i2 i3 y4 hh else
      if (x1 &&& (63 : Int32)) = (17 : Int32) then f_L_law_c1184 n xs i1 i2 i3 y4 hh else
      if (x1 &&& (63 : Int32)) = (18 : Int32) then f_L_law_c1252 n xs i1 i2 i3 y4 hh else
      if (x1 &&& (63 : Int32)) = (19 : Int32) then f_L_law_c1308 n xs i1 i2 i3 y4 hh else
      if (x1 &&& (63 : Int32)) = (20 : Int32) then f_L_law_c1364 n xs i1 i2 i3 y4 hh else
      if (x1 &&& (63 : Int32)) = (21 : Int32) then f_L_law_c1377 n xs i1 i2 i3 y4 hh else
      if (x1 &&& (63 : Int32)) = (22 : Int32) then f_L_law_c1421 n xs i1 i2 i3 y4 hh else
      if (x1 &&& (63 : Int32)) = (23 : Int32) then f_L_law_c1513 n xs i1 i2 i3 y4 hh else
      if (x1 &&& (63 : Int32)) = (24 : Int32) then f_L_law_c1593 n xs i1 i2 i3 y4 hh else
      if (x1 &&& (63 : Int32)) = (25 : Int32) then f_L_law_c1649 n xs i1 i2 i3 y4 hh else
      if (x1 &&& (63 : Int32)) = (26 : Int32) then f_L_law_c1745 n xs i1 i2 i3 y4 hh else
      if (x1 &&& (63 : Int32)) = (27 : Int32) then f_L_law_c1837 n xs i1 i2 i3 y4 hh else
      if (x1 &&& (63 : Int32)) = (28 : Int32) then f_L_law_c1850 n xs i1 i2 i3 y4 hh else
      if (x1 &&& (63 : Int32)) = (29 : Int32) then f_L_law_c1891 n xs i1 i2 i3 y4 hh else
      if (x1 &&& (63 : Int32)) = (30 : Int32) then f_L_law_c1959 n xs i1 i2 i3 y4 hh else
      if (x1 &&& (63 : Int32)) = (31 : Int32) then f_L_law_c2027 n xs i1 i2 i3 y4 hh else
      if (x1 &&& (63 : Int32)) = (32 : Int32) then f_L_law_c2095 n xs i1 i2 i3 y4 hh else
      if (x1 &&& (63 : Int32)) = (33 : Int32) then f_L_law_c2163 n xs i1 i2 i3 y4 hh else
      if (x1 &&& (63 : Int32)) = (34 : Int32) then f_L_law_c2219 n xs i1 i2 i3 y4 hh else
      if (x1 &&& (63 : Int32)) = (35 : Int32) then f_L_law_c2287 n xs i1 i2 i3 y4 hh else
      if (x1 &&& (63 : Int32)) = (36 : Int32) then f_L_law_c2386 n xs i1 i2 i3 y4 hh else
      if (x1 &&& (63 : Int32)) = (37 : Int32) then f_L_law_c2489 n xs i1 i2 i3 y4 hh else
      if (x1 &&& (63 : Int32)) = (38 : Int32) then f_L_law_c2580 n xs i1 i2 i3 y4 hh else
      if (x1 &&& (63 : Int32)) = (39 : Int32) then f_L_law_c2660 n xs i1 i2 i3 y4 hh else
      if (x1 &&& (63 : Int32)) = (40 : Int32) then f_L_law_c2739 n xs i1 i2 i3 y4 hh else
      if (x1 &&& (63 : Int32)) = (41 : Int32) then f_L_law_c2752 n xs i1 i2 i3 y4 hh else
      if (x1 &&& (63 : Int32)) = (42 : Int32) then f_L_law_c2808 n xs i1 i2 i3 y4 hh else
      if (x1 &&& (63 : Int32)) = (43 : Int32) then f_L_law_c2864 n xs i1 i2 i3 y4 hh else
      if (x1 &&& (63 : Int32)) = (44 : Int32) then f_L_law_c2927 n xs i1 i2 i3 y4 hh else
      if (x1 &&& (63 : Int32)) = (45 : Int32) then f_L_law_c2983 n xs i1 i2 i3 y4 hh else
      if (x1 &&& (63 : Int32)) = (46 : Int32) then f_L_law_c3039 n xs i1 i2 i3 y4 hh else
      if (x1 &&& (63 : Int32)) = (47 : Int32) then f_L_law_c3107 n xs i1 i2 i3 y4 hh else
      if (x1 &&& (63 : Int32)) = (48 : Int32) then f_L_law_c3163 n xs i1 i2 i3 y4 hh else
      if (x1 &&& (63 : Int32)) = (49 : Int32) then f_L_law_c3231 n xs i1 i2 i3 y4 hh else
      if (x1 &&& (63 : Int32)) = (50 : Int32) then f_L_law_c3275 n xs i1 i2 i3 y4 hh else
      if (x1 &&& (63 : Int32)) = (51 : Int32) then f_L_law_c3331 n xs i1 i2 i3 y4 hh else
      if (x1 &&& (63 : Int32)) = (52 : Int32) then f_L_law_c3399 n xs i1 i2 i3 y4 hh else
      if (x1 &&& (63 : Int32)) = (53 : Int32) then f_L_law_c3479 n xs i1 i2 i3 y4 hh else
      if (x1 &&& (63 : Int32)) = (54 : Int32) then f_L_law_c3542 n xs i1 i2 i3 y4 hh else
      f_L_law_c3605 n xs i1 i2 i3 y4 hh
set_option maxHeartbeats 8000000 in
set_option maxRecDepth 40000 in
theorem l_L_law {l : Launch} {d : Nat} (hd9 : 10 ≤ d) {b n : Nat} {xs : Nat → Int32} {i1 i2 i3 : Nat} {Q : tq_R → tq_H → Prop} : ∀ (k : Nat) (y4 : Int32) (hh : tq_H) (o : Int32 × tq_H), tq_loop (f_L_law_b23 n xs i1 i2 i3) k (y4, hh) = some o → Q (.inl (some (.int o.1))) o.2 → tq_W l (mL_law b n xs) d (41 * k) (7744 * k) Q 23 [(0, .retAddr b), (1, .ref i1), (2, .ref i2), (3, .ref i3), (4, .int y4)] [] hh := by
  intro k
  induction k with
  | zero => intro y4 hh o hl; cases hl
  | succ k ih =>
    intro y4 hh o hl hk
    obtain ⟨oo, hf, ho⟩ := tq_loop_s hl
    refine tq_iload (M := mL_law b n xs) (pc := 23) dL_law_23 rfl ?_
    refine tq_xload (M := mL_law b n xs) (pc := 25) dL_law_25 rfl ?_
    refine tq_xlen (M := mL_law b n xs) (pc := 26) dL_law_26 (n := n) (xs := xs) rfl ?_
    refine tq_iconst (M := mL_law b n xs) (pc := 27) dL_law_27 tk_ki_5 ?_
    refine tq_isub (M := mL_law b n xs) (pc := 28) dL_law_28 ?_
    refine tq_icmp_gt (M := mL_law b n xs) (pc := 29) (tgt := 3611) dL_law_29 (by decide) (fun cc => ?_) (fun cc => ?_)
    · have hf := tq_ifp hf cc
      refine tq_iconst (M := mL_law b n xs) (pc := 3611) dL_law_3611 tk_ki_1 ?_
      refine tq_zret (M := mL_law b n xs) (pc := 3612) dL_law_3612 rfl (Or.inr rfl) ?_
      cases (Option.some.inj hf)
      cases (tq_lx ho)
      exact hk
    · have hf := tq_ifn hf cc
      refine tq_xload (M := mL_law b n xs) (pc := 32) dL_law_32 rfl ?_
      refine tq_iload (M := mL_law b n xs) (pc := 33) dL_law_33 rfl ?_
      obtain ⟨x1, ex1, hf⟩ := tq_be hf
      refine tq_xld (M := mL_law b n xs) (pc := 35) dL_law_35 (n := n) (xs := xs) rfl ex1 ?_
      refine tq_bipush (M := mL_law b n xs) (pc := 36) dL_law_36 tk_kb_63 ?_
      refine tq_iand (M := mL_law b n xs) (pc := 38) dL_law_38 ?_
      by_cases c0 : (x1 &&& (63 : Int32)) = (0 : Int32)
      · have hf := tq_ifp hf c0
        refine tq_tabX (M := mL_law b n xs) (pc := 39) (tgt := 272) (0 : Int32) c0 dL_law_39 (by decide +kernel) (by decide +kernel) (off := 233) (by decide +kernel) (by decide) ?_
        refine tq_more (bc := 5 + 41 * k) (bs := 30 + 7744 * k) (by omega) (by omega) ?_
        refine c_L_law_272 hd9 hf (fun s9 q9 => ?_) (fun e9 q9 => ?_)
        · subst q9; exact ih s9.1 s9.2 o (tq_lc ho) hk
        · subst q9; cases (tq_lx ho); exact hk
      have hf := tq_ifn hf c0
      by_cases c1 : (x1 &&& (63 : Int32)) = (1 : Int32)
      · have hf := tq_ifp hf c1
        refine tq_tabX (M := mL_law b n xs) (pc := 39) (tgt := 352) (1 : Int32) c1 dL_law_39 (by decide +kernel) (by decide +kernel) (off := 313) (by decide +kernel) (by decide) ?_
        refine tq_more (bc := 5 + 41 * k) (bs := 30 + 7744 * k) (by omega) (by omega) ?_
        refine c_L_law_352 hd9 hf (fun s9 q9 => ?_) (fun e9 q9 => ?_)
        · subst q9; exact ih s9.1 s9.2 o (tq_lc ho) hk
        · subst q9; cases (tq_lx ho); exact hk
      have hf := tq_ifn hf c1
      by_cases c2 : (x1 &&& (63 : Int32)) = (2 : Int32)
      · have hf := tq_ifp hf c2
        refine tq_tabX (M := mL_law b n xs) (pc := 39) (tgt := 432) (2 : Int32) c2 dL_law_39 (by decide +kernel) (by decide +kernel) (off := 393) (by decide +kernel) (by decide) ?_
        refine tq_more (bc := 5 + 41 * k) (bs := 30 + 7744 * k) (by omega) (by omega) ?_
        refine c_L_law_432 hd9 hf (fun s9 q9 => ?_) (fun e9 q9 => ?_)
        · subst q9; exact ih s9.1 s9.2 o (tq_lc ho) hk
        · subst q9; cases (tq_lx ho); exact hk
      have hf := tq_ifn hf c2
      by_cases c3 : (x1 &&& (63 : Int32)) = (3 : Int32)
      · have hf := tq_ifp hf c3
        refine tq_tabX (M := mL_law b n xs) (pc := 39) (tgt := 512) (3 : Int32) c3 dL_law_39 (by decide +kernel) (by decide +kernel) (off := 473) (by decide +kernel) (by decide) ?_
        refine tq_more (bc := 3 + 41 * k) (bs := 18 + 7744 * k) (by omega) (by omega) ?_
        refine c_L_law_512 hd9 hf (fun s9 q9 => ?_) (fun e9 q9 => ?_)
        · subst q9; exact ih s9.1 s9.2 o (tq_lc ho) hk
        · subst q9; cases (tq_lx ho); exact hk
      have hf := tq_ifn hf c3
      by_cases c4 : (x1 &&& (63 : Int32)) = (4 : Int32)
      · have hf := tq_ifp hf c4
        refine tq_tabX (M := mL_law b n xs) (pc := 39) (tgt := 568) (4 : Int32) c4 dL_law_39 (by decide +kernel) (by decide +kernel) (off := 529) (by decide +kernel) (by decide) ?_
        refine tq_more (bc := 4 + 41 * k) (bs := 24 + 7744 * k) (by omega) (by omega) ?_
        refine c_L_law_568 hd9 hf (fun s9 q9 => ?_) (fun e9 q9 => ?_)
        · subst q9; exact ih s9.1 s9.2 o (tq_lc ho) hk
        · subst q9; cases (tq_lx ho); exact hk
      have hf := tq_ifn hf c4
      by_cases c5 : (x1 &&& (63 : Int32)) = (5 : Int32)
      · have hf := tq_ifp hf c5
        refine tq_tabX (M := mL_law b n xs) (pc := 39) (tgt := 636) (5 : Int32) c5 dL_law_39 (by decide +kernel) (by decide +kernel) (off := 597) (by decide +kernel) (by decide) ?_
        refine tq_more (bc := 4 + 41 * k) (bs := 24 + 7744 * k) (by omega) (by omega) ?_
        refine c_L_law_636 hd9 hf (fun s9 q9 => ?_) (fun e9 q9 => ?_)
        · subst q9; exact ih s9.1 s9.2 o (tq_lc ho) hk
        · subst q9; cases (tq_lx ho); exact hk
      have hf := tq_ifn hf c5
      by_cases c6 : (x1 &&& (63 : Int32)) = (6 : Int32)
      · have hf := tq_ifp hf c6
        refine tq_tabX (M := mL_law b n xs) (pc := 39) (tgt := 704) (6 : Int32) c6 dL_law_39 (by decide +kernel) (by decide +kernel) (off := 665) (by decide +kernel) (by decide) ?_
        refine tq_more (bc := 6 + 41 * k) (bs := 36 + 7744 * k) (by omega) (by omega) ?_
        refine c_L_law_704 hd9 hf (fun s9 q9 => ?_) (fun e9 q9 => ?_)
        · subst q9; exact ih s9.1 s9.2 o (tq_lc ho) hk
        · subst q9; cases (tq_lx ho); exact hk
      have hf := tq_ifn hf c6
      by_cases c7 : (x1 &&& (63 : Int32)) = (7 : Int32)
      · have hf := tq_ifp hf c7
        refine tq_tabX (M := mL_law b n xs) (pc := 39) (tgt := 784) (7 : Int32) c7 dL_law_39 (by decide +kernel) (by decide +kernel) (off := 745) (by decide +kernel) (by decide) ?_
        refine tq_more (bc := 4 + 41 * k) (bs := 24 + 7744 * k) (by omega) (by omega) ?_
        refine c_L_law_784 hd9 hf (fun s9 q9 => ?_) (fun e9 q9 => ?_)
        · subst q9; exact ih s9.1 s9.2 o (tq_lc ho) hk
        · subst q9; cases (tq_lx ho); exact hk
      have hf := tq_ifn hf c7
      by_cases c8 : (x1 &&& (63 : Int32)) = (8 : Int32)
      · have hf := tq_ifp hf c8
        refine tq_tabX (M := mL_law b n xs) (pc := 39) (tgt := 852) (8 : Int32) c8 dL_law_39 (by decide +kernel) (by decide +kernel) (off := 813) (by decide +kernel) (by decide) ?_
        refine tq_more (bc := 1 + 41 * k) (bs := 6 + 7744 * k) (by omega) (by omega) ?_
        refine c_L_law_852 hd9 hf (fun s9 q9 => ?_) (fun e9 q9 => ?_)
        · subst q9; exact ih s9.1 s9.2 o (tq_lc ho) hk
        · subst q9; cases (tq_lx ho); exact hk
      have hf := tq_ifn hf c8
      by_cases c9 : (x1 &&& (63 : Int32)) = (9 : Int32)
      · have hf := tq_ifp hf c9
        refine tq_tabX (M := mL_law b n xs) (pc := 39) (tgt := 896) (9 : Int32) c9 dL_law_39 (by decide +kernel) (by decide +kernel) (off := 857) (by decide +kernel) (by decide) ?_
        refine tq_more (bc := 0 + 41 * k) (bs := 0 + 7744 * k) (by omega) (by omega) ?_
        refine c_L_law_896 hd9 hf (fun s9 q9 => ?_) (fun e9 q9 => ?_)
        · subst q9; exact ih s9.1 s9.2 o (tq_lc ho) hk
        · subst q9; cases (tq_lx ho); exact hk
      have hf := tq_ifn hf c9
      by_cases c10 : (x1 &&& (63 : Int32)) = (10 : Int32)
      · have hf := tq_ifp hf c10
        refine tq_tabX (M := mL_law b n xs) (pc := 39) (tgt := 909) (10 : Int32) c10 dL_law_39 (by decide +kernel) (by decide +kernel) (off := 870) (by decide +kernel) (by decide) ?_
        refine tq_more (bc := 0 + 41 * k) (bs := 0 + 7744 * k) (by omega) (by omega) ?_
        refine c_L_law_909 hd9 hf (fun s9 q9 => ?_) (fun e9 q9 => ?_)
        · subst q9; exact ih s9.1 s9.2 o (tq_lc ho) hk
        · subst q9; cases (tq_lx ho); exact hk
      have hf := tq_ifn hf c10
      by_cases c11 : (x1 &&& (63 : Int32)) = (11 : Int32)
      · have hf := tq_ifp hf c11
        refine tq_tabX (M := mL_law b n xs) (pc := 39) (tgt := 922) (11 : Int32) c11 dL_law_39 (by decide +kernel) (by decide +kernel) (off := 883) (by decide +kernel) (by decide) ?_
        refine tq_more (bc := 0 + 41 * k) (bs := 0 + 7744 * k) (by omega) (by omega) ?_
        refine c_L_law_922 hd9 hf (fun s9 q9 => ?_) (fun e9 q9 => ?_)
        · subst q9; exact ih s9.1 s9.2 o (tq_lc ho) hk
        · subst q9; cases (tq_lx ho); exact hk
      have hf := tq_ifn hf c11
      by_cases c12 : (x1 &&& (63 : Int32)) = (12 : Int32)
      · have hf := tq_ifp hf c12
        refine tq_tabX (M := mL_law b n xs) (pc := 39) (tgt := 935) (12 : Int32) c12 dL_law_39 (by decide +kernel) (by decide +kernel) (off := 896) (by decide +kernel) (by decide) ?_
        refine tq_more (bc := 0 + 41 * k) (bs := 0 + 7744 * k) (by omega) (by omega) ?_
        refine c_L_law_935 hd9 hf (fun s9 q9 => ?_) (fun e9 q9 => ?_)
        · subst q9; exact ih s9.1 s9.2 o (tq_lc ho) hk
        · subst q9; cases (tq_lx ho); exact hk
      have hf := tq_ifn hf c12
      by_cases c13 : (x1 &&& (63 : Int32)) = (13 : Int32)
      · have hf := tq_ifp hf c13
        refine tq_tabX (M := mL_law b n xs) (pc := 39) (tgt := 960) (13 : Int32) c13 dL_law_39 (by decide +kernel) (by decide +kernel) (off := 921) (by decide +kernel) (by decide) ?_
        refine tq_more (bc := 1 + 41 * k) (bs := 6 + 7744 * k) (by omega) (by omega) ?_
        refine c_L_law_960 hd9 hf (fun s9 q9 => ?_) (fun e9 q9 => ?_)
        · subst q9; exact ih s9.1 s9.2 o (tq_lc ho) hk
        · subst q9; cases (tq_lx ho); exact hk
      have hf := tq_ifn hf c13
      by_cases c14 : (x1 &&& (63 : Int32)) = (14 : Int32)
      · have hf := tq_ifp hf c14
        refine tq_tabX (M := mL_law b n xs) (pc := 39) (tgt := 1016) (14 : Int32) c14 dL_law_39 (by decide +kernel) (by decide +kernel) (off := 977) (by decide +kernel) (by decide) ?_
        refine tq_more (bc := 1 + 41 * k) (bs := 6 + 7744 * k) (by omega) (by omega) ?_
        refine c_L_law_1016 hd9 hf (fun s9 q9 => ?_) (fun e9 q9 => ?_)
        · subst q9; exact ih s9.1 s9.2 o (tq_lc ho) hk
        · subst q9; cases (tq_lx ho); exact hk
      have hf := tq_ifn hf c14
      by_cases c15 : (x1 &&& (63 : Int32)) = (15 : Int32)
      · have hf := tq_ifp hf c15
        refine tq_tabX (M := mL_law b n xs) (pc := 39) (tgt := 1072) (15 : Int32) c15 dL_law_39 (by decide +kernel) (by decide +kernel) (off := 1033) (by decide +kernel) (by decide) ?_
        refine tq_more (bc := 1 + 41 * k) (bs := 6 + 7744 * k) (by omega) (by omega) ?_
        refine c_L_law_1072 hd9 hf (fun s9 q9 => ?_) (fun e9 q9 => ?_)
        · subst q9; exact ih s9.1 s9.2 o (tq_lc ho) hk
        · subst q9; cases (tq_lx ho); exact hk
      have hf := tq_ifn hf c15
      by_cases c16 : (x1 &&& (63 : Int32)) = (16 : Int32)
      · have hf := tq_ifp hf c16
        refine tq_tabX (M := mL_law b n xs) (pc := 39) (tgt := 1128) (16 : Int32) c16 dL_law_39 (by decide +kernel) (by decide +kernel) (off := 1089) (by decide +kernel) (by decide) ?_
        refine tq_more (bc := 1 + 41 * k) (bs := 6 + 7744 * k) (by omega) (by omega) ?_
        refine c_L_law_1128 hd9 hf (fun s9 q9 => ?_) (fun e9 q9 => ?_)
        · subst q9; exact ih s9.1 s9.2 o (tq_lc ho) hk
        · subst q9; cases (tq_lx ho); exact hk
      have hf := tq_ifn hf c16
      by_cases c17 : (x1 &&& (63 : Int32)) = (17 : Int32)
      · have hf := tq_ifp hf c17
        refine tq_tabX (M := mL_law b n xs) (pc := 39) (tgt := 1184) (17 : Int32) c17 dL_law_39 (by decide +kernel) (by decide +kernel) (off := 1145) (by decide +kernel) (by decide) ?_
        refine tq_more (bc := 2 + 41 * k) (bs := 12 + 7744 * k) (by omega) (by omega) ?_
        refine c_L_law_1184 hd9 hf (fun s9 q9 => ?_) (fun e9 q9 => ?_)
        · subst q9; exact ih s9.1 s9.2 o (tq_lc ho) hk
        · subst q9; cases (tq_lx ho); exact hk
      have hf := tq_ifn hf c17
      by_cases c18 : (x1 &&& (63 : Int32)) = (18 : Int32)
      · have hf := tq_ifp hf c18
        refine tq_tabX (M := mL_law b n xs) (pc := 39) (tgt := 1252) (18 : Int32) c18 dL_law_39 (by decide +kernel) (by decide +kernel) (off := 1213) (by decide +kernel) (by decide) ?_
        refine tq_more (bc := 1 + 41 * k) (bs := 6 + 7744 * k) (by omega) (by omega) ?_
        refine c_L_law_1252 hd9 hf (fun s9 q9 => ?_) (fun e9 q9 => ?_)
        · subst q9; exact ih s9.1 s9.2 o (tq_lc ho) hk
        · subst q9; cases (tq_lx ho); exact hk
      have hf := tq_ifn hf c18
      by_cases c19 : (x1 &&& (63 : Int32)) = (19 : Int32)
      · have hf := tq_ifp hf c19
        refine tq_tabX (M := mL_law b n xs) (pc := 39) (tgt := 1308) (19 : Int32) c19 dL_law_39 (by decide +kernel) (by decide +kernel) (off := 1269) (by decide +kernel) (by decide) ?_
        refine tq_more (bc := 1 + 41 * k) (bs := 6 + 7744 * k) (by omega) (by omega) ?_
        refine c_L_law_1308 hd9 hf (fun s9 q9 => ?_) (fun e9 q9 => ?_)
        · subst q9; exact ih s9.1 s9.2 o (tq_lc ho) hk
        · subst q9; cases (tq_lx ho); exact hk
      have hf := tq_ifn hf c19
      by_cases c20 : (x1 &&& (63 : Int32)) = (20 : Int32)
      · have hf := tq_ifp hf c20
        refine tq_tabX (M := mL_law b n xs) (pc := 39) (tgt := 1364) (20 : Int32) c20 dL_law_39 (by decide +kernel) (by decide +kernel) (off := 1325) (by decide +kernel) (by decide) ?_
        refine tq_more (bc := 0 + 41 * k) (bs := 0 + 7744 * k) (by omega) (by omega) ?_
        refine c_L_law_1364 hd9 hf (fun s9 q9 => ?_) (fun e9 q9 => ?_)
        · subst q9; exact ih s9.1 s9.2 o (tq_lc ho) hk
        · subst q9; cases (tq_lx ho); exact hk
      have hf := tq_ifn hf c20
      by_cases c21 : (x1 &&& (63 : Int32)) = (21 : Int32)
      · have hf := tq_ifp hf c21
        refine tq_tabX (M := mL_law b n xs) (pc := 39) (tgt := 1377) (21 : Int32) c21 dL_law_39 (by decide +kernel) (by decide +kernel) (off := 1338) (by decide +kernel) (by decide) ?_
        refine tq_more (bc := 1 + 41 * k) (bs := 6 + 7744 * k) (by omega) (by omega) ?_
        refine c_L_law_1377 hd9 hf (fun s9 q9 => ?_) (fun e9 q9 => ?_)
        · subst q9; exact ih s9.1 s9.2 o (tq_lc ho) hk
        · subst q9; cases (tq_lx ho); exact hk
      have hf := tq_ifn hf c21
      by_cases c22 : (x1 &&& (63 : Int32)) = (22 : Int32)
      · have hf := tq_ifp hf c22
        refine tq_tabX (M := mL_law b n xs) (pc := 39) (tgt := 1421) (22 : Int32) c22 dL_law_39 (by decide +kernel) (by decide +kernel) (off := 1382) (by decide +kernel) (by decide) ?_
        refine tq_more (bc := 6 + 41 * k) (bs := 36 + 7744 * k) (by omega) (by omega) ?_
        refine c_L_law_1421 hd9 hf (fun s9 q9 => ?_) (fun e9 q9 => ?_)
        · subst q9; exact ih s9.1 s9.2 o (tq_lc ho) hk
        · subst q9; cases (tq_lx ho); exact hk
      have hf := tq_ifn hf c22
      by_cases c23 : (x1 &&& (63 : Int32)) = (23 : Int32)
      · have hf := tq_ifp hf c23
        refine tq_tabX (M := mL_law b n xs) (pc := 39) (tgt := 1513) (23 : Int32) c23 dL_law_39 (by decide +kernel) (by decide +kernel) (off := 1474) (by decide +kernel) (by decide) ?_
        refine tq_more (bc := 5 + 41 * k) (bs := 30 + 7744 * k) (by omega) (by omega) ?_
        refine c_L_law_1513 hd9 hf (fun s9 q9 => ?_) (fun e9 q9 => ?_)
        · subst q9; exact ih s9.1 s9.2 o (tq_lc ho) hk
        · subst q9; cases (tq_lx ho); exact hk
      have hf := tq_ifn hf c23
      by_cases c24 : (x1 &&& (63 : Int32)) = (24 : Int32)
      · have hf := tq_ifp hf c24
        refine tq_tabX (M := mL_law b n xs) (pc := 39) (tgt := 1593) (24 : Int32) c24 dL_law_39 (by decide +kernel) (by decide +kernel) (off := 1554) (by decide +kernel) (by decide) ?_
        refine tq_more (bc := 3 + 41 * k) (bs := 18 + 7744 * k) (by omega) (by omega) ?_
        refine c_L_law_1593 hd9 hf (fun s9 q9 => ?_) (fun e9 q9 => ?_)
        · subst q9; exact ih s9.1 s9.2 o (tq_lc ho) hk
        · subst q9; cases (tq_lx ho); exact hk
      have hf := tq_ifn hf c24
      by_cases c25 : (x1 &&& (63 : Int32)) = (25 : Int32)
      · have hf := tq_ifp hf c25
        refine tq_tabX (M := mL_law b n xs) (pc := 39) (tgt := 1649) (25 : Int32) c25 dL_law_39 (by decide +kernel) (by decide +kernel) (off := 1610) (by decide +kernel) (by decide) ?_
        refine tq_more (bc := 4 + 41 * k) (bs := 24 + 7744 * k) (by omega) (by omega) ?_
        refine c_L_law_1649 hd9 hf (fun s9 q9 => ?_) (fun e9 q9 => ?_)
        · subst q9; exact ih s9.1 s9.2 o (tq_lc ho) hk
        · subst q9; cases (tq_lx ho); exact hk
      have hf := tq_ifn hf c25
      by_cases c26 : (x1 &&& (63 : Int32)) = (26 : Int32)
      · have hf := tq_ifp hf c26
        refine tq_tabX (M := mL_law b n xs) (pc := 39) (tgt := 1745) (26 : Int32) c26 dL_law_39 (by decide +kernel) (by decide +kernel) (off := 1706) (by decide +kernel) (by decide) ?_
        refine tq_more (bc := 6 + 41 * k) (bs := 36 + 7744 * k) (by omega) (by omega) ?_
        refine c_L_law_1745 hd9 hf (fun s9 q9 => ?_) (fun e9 q9 => ?_)
        · subst q9; exact ih s9.1 s9.2 o (tq_lc ho) hk
        · subst q9; cases (tq_lx ho); exact hk
      have hf := tq_ifn hf c26
      by_cases c27 : (x1 &&& (63 : Int32)) = (27 : Int32)
      · have hf := tq_ifp hf c27
        refine tq_tabX (M := mL_law b n xs) (pc := 39) (tgt := 1837) (27 : Int32) c27 dL_law_39 (by decide +kernel) (by decide +kernel) (off := 1798) (by decide +kernel) (by decide) ?_
        refine tq_more (bc := 0 + 41 * k) (bs := 0 + 7744 * k) (by omega) (by omega) ?_
        refine c_L_law_1837 hd9 hf (fun s9 q9 => ?_) (fun e9 q9 => ?_)
        · subst q9; exact ih s9.1 s9.2 o (tq_lc ho) hk
        · subst q9; cases (tq_lx ho); exact hk
      have hf := tq_ifn hf c27
      by_cases c28 : (x1 &&& (63 : Int32)) = (28 : Int32)
      · have hf := tq_ifp hf c28
        refine tq_tabX (M := mL_law b n xs) (pc := 39) (tgt := 1850) (28 : Int32) c28 dL_law_39 (by decide +kernel) (by decide +kernel) (off := 1811) (by decide +kernel) (by decide) ?_
        refine tq_more (bc := 0 + 41 * k) (bs := 0 + 7744 * k) (by omega) (by omega) ?_
        refine c_L_law_1850 hd9 hf (fun s9 q9 => ?_) (fun e9 q9 => ?_)
        · subst q9; exact ih s9.1 s9.2 o (tq_lc ho) hk
        · subst q9; cases (tq_lx ho); exact hk
      have hf := tq_ifn hf c28
      by_cases c29 : (x1 &&& (63 : Int32)) = (29 : Int32)
      · have hf := tq_ifp hf c29
        refine tq_tabX (M := mL_law b n xs) (pc := 39) (tgt := 1891) (29 : Int32) c29 dL_law_39 (by decide +kernel) (by decide +kernel) (off := 1852) (by decide +kernel) (by decide) ?_
        refine tq_more (bc := 3 + 41 * k) (bs := 18 + 7744 * k) (by omega) (by omega) ?_
        refine c_L_law_1891 hd9 hf (fun s9 q9 => ?_) (fun e9 q9 => ?_)
        · subst q9; exact ih s9.1 s9.2 o (tq_lc ho) hk
        · subst q9; cases (tq_lx ho); exact hk
      have hf := tq_ifn hf c29
      by_cases c30 : (x1 &&& (63 : Int32)) = (30 : Int32)
      · have hf := tq_ifp hf c30
        refine tq_tabX (M := mL_law b n xs) (pc := 39) (tgt := 1959) (30 : Int32) c30 dL_law_39 (by decide +kernel) (by decide +kernel) (off := 1920) (by decide +kernel) (by decide) ?_
        refine tq_more (bc := 3 + 41 * k) (bs := 18 + 7744 * k) (by omega) (by omega) ?_
        refine c_L_law_1959 hd9 hf (fun s9 q9 => ?_) (fun e9 q9 => ?_)
        · subst q9; exact ih s9.1 s9.2 o (tq_lc ho) hk
        · subst q9; cases (tq_lx ho); exact hk
      have hf := tq_ifn hf c30
      by_cases c31 : (x1 &&& (63 : Int32)) = (31 : Int32)
      · have hf := tq_ifp hf c31
        refine tq_tabX (M := mL_law b n xs) (pc := 39) (tgt := 2027) (31 : Int32) c31 dL_law_39 (by decide +kernel) (by decide +kernel) (off := 1988) (by decide +kernel) (by decide) ?_
        refine tq_more (bc := 2 + 41 * k) (bs := 12 + 7744 * k) (by omega) (by omega) ?_
        refine c_L_law_2027 hd9 hf (fun s9 q9 => ?_) (fun e9 q9 => ?_)
        · subst q9; exact ih s9.1 s9.2 o (tq_lc ho) hk
        · subst q9; cases (tq_lx ho); exact hk
      have hf := tq_ifn hf c31
      by_cases c32 : (x1 &&& (63 : Int32)) = (32 : Int32)
      · have hf := tq_ifp hf c32
        refine tq_tabX (M := mL_law b n xs) (pc := 39) (tgt := 2095) (32 : Int32) c32 dL_law_39 (by decide +kernel) (by decide +kernel) (off := 2056) (by decide +kernel) (by decide) ?_
        refine tq_more (bc := 2 + 41 * k) (bs := 12 + 7744 * k) (by omega) (by omega) ?_
        refine c_L_law_2095 hd9 hf (fun s9 q9 => ?_) (fun e9 q9 => ?_)
        · subst q9; exact ih s9.1 s9.2 o (tq_lc ho) hk
        · subst q9; cases (tq_lx ho); exact hk
      have hf := tq_ifn hf c32
      by_cases c33 : (x1 &&& (63 : Int32)) = (33 : Int32)
      · have hf := tq_ifp hf c33
        refine tq_tabX (M := mL_law b n xs) (pc := 39) (tgt := 2163) (33 : Int32) c33 dL_law_39 (by decide +kernel) (by decide +kernel) (off := 2124) (by decide +kernel) (by decide) ?_
        refine tq_more (bc := 1 + 41 * k) (bs := 6 + 7744 * k) (by omega) (by omega) ?_
        refine c_L_law_2163 hd9 hf (fun s9 q9 => ?_) (fun e9 q9 => ?_)
        · subst q9; exact ih s9.1 s9.2 o (tq_lc ho) hk
        · subst q9; cases (tq_lx ho); exact hk
      have hf := tq_ifn hf c33
      by_cases c34 : (x1 &&& (63 : Int32)) = (34 : Int32)
      · have hf := tq_ifp hf c34
        refine tq_tabX (M := mL_law b n xs) (pc := 39) (tgt := 2219) (34 : Int32) c34 dL_law_39 (by decide +kernel) (by decide +kernel) (off := 2180) (by decide +kernel) (by decide) ?_
        refine tq_more (bc := 3 + 41 * k) (bs := 18 + 7744 * k) (by omega) (by omega) ?_
        refine c_L_law_2219 hd9 hf (fun s9 q9 => ?_) (fun e9 q9 => ?_)
        · subst q9; exact ih s9.1 s9.2 o (tq_lc ho) hk
        · subst q9; cases (tq_lx ho); exact hk
      have hf := tq_ifn hf c34
      by_cases c35 : (x1 &&& (63 : Int32)) = (35 : Int32)
      · have hf := tq_ifp hf c35
        refine tq_tabX (M := mL_law b n xs) (pc := 39) (tgt := 2287) (35 : Int32) c35 dL_law_39 (by decide +kernel) (by decide +kernel) (off := 2248) (by decide +kernel) (by decide) ?_
        refine tq_more (bc := 5 + 41 * k) (bs := 30 + 7744 * k) (by omega) (by omega) ?_
        refine c_L_law_2287 hd9 hf (fun s9 q9 => ?_) (fun e9 q9 => ?_)
        · subst q9; exact ih s9.1 s9.2 o (tq_lc ho) hk
        · subst q9; cases (tq_lx ho); exact hk
      have hf := tq_ifn hf c35
      by_cases c36 : (x1 &&& (63 : Int32)) = (36 : Int32)
      · have hf := tq_ifp hf c36
        refine tq_tabX (M := mL_law b n xs) (pc := 39) (tgt := 2386) (36 : Int32) c36 dL_law_39 (by decide +kernel) (by decide +kernel) (off := 2347) (by decide +kernel) (by decide) ?_
        refine tq_more (bc := 3 + 41 * k) (bs := 18 + 7744 * k) (by omega) (by omega) ?_
        refine c_L_law_2386 hd9 hf (fun s9 q9 => ?_) (fun e9 q9 => ?_)
        · subst q9; exact ih s9.1 s9.2 o (tq_lc ho) hk
        · subst q9; cases (tq_lx ho); exact hk
      have hf := tq_ifn hf c36
      by_cases c37 : (x1 &&& (63 : Int32)) = (37 : Int32)
      · have hf := tq_ifp hf c37
        refine tq_tabX (M := mL_law b n xs) (pc := 39) (tgt := 2489) (37 : Int32) c37 dL_law_39 (by decide +kernel) (by decide +kernel) (off := 2450) (by decide +kernel) (by decide) ?_
        refine tq_more (bc := 2 + 41 * k) (bs := 12 + 7744 * k) (by omega) (by omega) ?_
        refine c_L_law_2489 hd9 hf (fun s9 q9 => ?_) (fun e9 q9 => ?_)
        · subst q9; exact ih s9.1 s9.2 o (tq_lc ho) hk
        · subst q9; cases (tq_lx ho); exact hk
      have hf := tq_ifn hf c37
      by_cases c38 : (x1 &&& (63 : Int32)) = (38 : Int32)
      · have hf := tq_ifp hf c38
        refine tq_tabX (M := mL_law b n xs) (pc := 39) (tgt := 2580) (38 : Int32) c38 dL_law_39 (by decide +kernel) (by decide +kernel) (off := 2541) (by decide +kernel) (by decide) ?_
        refine tq_more (bc := 4 + 41 * k) (bs := 24 + 7744 * k) (by omega) (by omega) ?_
        refine c_L_law_2580 hd9 hf (fun s9 q9 => ?_) (fun e9 q9 => ?_)
        · subst q9; exact ih s9.1 s9.2 o (tq_lc ho) hk
        · subst q9; cases (tq_lx ho); exact hk
      have hf := tq_ifn hf c38
      by_cases c39 : (x1 &&& (63 : Int32)) = (39 : Int32)
      · have hf := tq_ifp hf c39
        refine tq_tabX (M := mL_law b n xs) (pc := 39) (tgt := 2660) (39 : Int32) c39 dL_law_39 (by decide +kernel) (by decide +kernel) (off := 2621) (by decide +kernel) (by decide) ?_
        refine tq_more (bc := 1 + 41 * k) (bs := 6 + 7744 * k) (by omega) (by omega) ?_
        refine c_L_law_2660 hd9 hf (fun s9 q9 => ?_) (fun e9 q9 => ?_)
        · subst q9; exact ih s9.1 s9.2 o (tq_lc ho) hk
        · subst q9; cases (tq_lx ho); exact hk
      have hf := tq_ifn hf c39
      by_cases c40 : (x1 &&& (63 : Int32)) = (40 : Int32)
      · have hf := tq_ifp hf c40
        refine tq_tabX (M := mL_law b n xs) (pc := 39) (tgt := 2739) (40 : Int32) c40 dL_law_39 (by decide +kernel) (by decide +kernel) (off := 2700) (by decide +kernel) (by decide) ?_
        refine tq_more (bc := 0 + 41 * k) (bs := 0 + 7744 * k) (by omega) (by omega) ?_
        refine c_L_law_2739 hd9 hf (fun s9 q9 => ?_) (fun e9 q9 => ?_)
        · subst q9; exact ih s9.1 s9.2 o (tq_lc ho) hk
        · subst q9; cases (tq_lx ho); exact hk
      have hf := tq_ifn hf c40
      by_cases c41 : (x1 &&& (63 : Int32)) = (41 : Int32)
      · have hf := tq_ifp hf c41
        refine tq_tabX (M := mL_law b n xs) (pc := 39) (tgt := 2752) (41 : Int32) c41 dL_law_39 (by decide +kernel) (by decide +kernel) (off := 2713) (by decide +kernel) (by decide) ?_
        refine tq_more (bc := 1 + 41 * k) (bs := 6 + 7744 * k) (by omega) (by omega) ?_
        refine c_L_law_2752 hd9 hf (fun s9 q9 => ?_) (fun e9 q9 => ?_)
        · subst q9; exact ih s9.1 s9.2 o (tq_lc ho) hk
        · subst q9; cases (tq_lx ho); exact hk
      have hf := tq_ifn hf c41
      by_cases c42 : (x1 &&& (63 : Int32)) = (42 : Int32)
      · have hf := tq_ifp hf c42
        refine tq_tabX (M := mL_law b n xs) (pc := 39) (tgt := 2808) (42 : Int32) c42 dL_law_39 (by decide +kernel) (by decide +kernel) (off := 2769) (by decide +kernel) (by decide) ?_
        refine tq_more (bc := 1 + 41 * k) (bs := 6 + 7744 * k) (by omega) (by omega) ?_
        refine c_L_law_2808 hd9 hf (fun s9 q9 => ?_) (fun e9 q9 => ?_)
        · subst q9; exact ih s9.1 s9.2 o (tq_lc ho) hk
        · subst q9; cases (tq_lx ho); exact hk
      have hf := tq_ifn hf c42
      by_cases c43 : (x1 &&& (63 : Int32)) = (43 : Int32)
      · have hf := tq_ifp hf c43
        refine tq_tabX (M := mL_law b n xs) (pc := 39) (tgt := 2864) (43 : Int32) c43 dL_law_39 (by decide +kernel) (by decide +kernel) (off := 2825) (by decide +kernel) (by decide) ?_
        refine tq_more (bc := 1 + 41 * k) (bs := 6 + 7744 * k) (by omega) (by omega) ?_
        refine c_L_law_2864 hd9 hf (fun s9 q9 => ?_) (fun e9 q9 => ?_)
        · subst q9; exact ih s9.1 s9.2 o (tq_lc ho) hk
        · subst q9; cases (tq_lx ho); exact hk
      have hf := tq_ifn hf c43
      by_cases c44 : (x1 &&& (63 : Int32)) = (44 : Int32)
      · have hf := tq_ifp hf c44
        refine tq_tabX (M := mL_law b n xs) (pc := 39) (tgt := 2927) (44 : Int32) c44 dL_law_39 (by decide +kernel) (by decide +kernel) (off := 2888) (by decide +kernel) (by decide) ?_
        refine tq_more (bc := 1 + 41 * k) (bs := 6 + 7744 * k) (by omega) (by omega) ?_
        refine c_L_law_2927 hd9 hf (fun s9 q9 => ?_) (fun e9 q9 => ?_)
        · subst q9; exact ih s9.1 s9.2 o (tq_lc ho) hk
        · subst q9; cases (tq_lx ho); exact hk
      have hf := tq_ifn hf c44
      by_cases c45 : (x1 &&& (63 : Int32)) = (45 : Int32)
      · have hf := tq_ifp hf c45
        refine tq_tabX (M := mL_law b n xs) (pc := 39) (tgt := 2983) (45 : Int32) c45 dL_law_39 (by decide +kernel) (by decide +kernel) (off := 2944) (by decide +kernel) (by decide) ?_
        refine tq_more (bc := 2 + 41 * k) (bs := 12 + 7744 * k) (by omega) (by omega) ?_
        refine c_L_law_2983 hd9 hf (fun s9 q9 => ?_) (fun e9 q9 => ?_)
        · subst q9; exact ih s9.1 s9.2 o (tq_lc ho) hk
        · subst q9; cases (tq_lx ho); exact hk
      have hf := tq_ifn hf c45
      by_cases c46 : (x1 &&& (63 : Int32)) = (46 : Int32)
      · have hf := tq_ifp hf c46
        refine tq_tabX (M := mL_law b n xs) (pc := 39) (tgt := 3039) (46 : Int32) c46 dL_law_39 (by decide +kernel) (by decide +kernel) (off := 3000) (by decide +kernel) (by decide) ?_
        refine tq_more (bc := 2 + 41 * k) (bs := 12 + 7744 * k) (by omega) (by omega) ?_
        refine c_L_law_3039 hd9 hf (fun s9 q9 => ?_) (fun e9 q9 => ?_)
        · subst q9; exact ih s9.1 s9.2 o (tq_lc ho) hk
        · subst q9; cases (tq_lx ho); exact hk
      have hf := tq_ifn hf c46
      by_cases c47 : (x1 &&& (63 : Int32)) = (47 : Int32)
      · have hf := tq_ifp hf c47
        refine tq_tabX (M := mL_law b n xs) (pc := 39) (tgt := 3107) (47 : Int32) c47 dL_law_39 (by decide +kernel) (by decide +kernel) (off := 3068) (by decide +kernel) (by decide) ?_
        refine tq_more (bc := 1 + 41 * k) (bs := 6 + 7744 * k) (by omega) (by omega) ?_
        refine c_L_law_3107 hd9 hf (fun s9 q9 => ?_) (fun e9 q9 => ?_)
        · subst q9; exact ih s9.1 s9.2 o (tq_lc ho) hk
        · subst q9; cases (tq_lx ho); exact hk
      have hf := tq_ifn hf c47
      by_cases c48 : (x1 &&& (63 : Int32)) = (48 : Int32)
      · have hf := tq_ifp hf c48
        refine tq_tabX (M := mL_law b n xs) (pc := 39) (tgt := 3163) (48 : Int32) c48 dL_law_39 (by decide +kernel) (by decide +kernel) (off := 3124) (by decide +kernel) (by decide) ?_
        refine tq_more (bc := 2 + 41 * k) (bs := 12 + 7744 * k) (by omega) (by omega) ?_
        refine c_L_law_3163 hd9 hf (fun s9 q9 => ?_) (fun e9 q9 => ?_)
        · subst q9; exact ih s9.1 s9.2 o (tq_lc ho) hk
        · subst q9; cases (tq_lx ho); exact hk
      have hf := tq_ifn hf c48
      by_cases c49 : (x1 &&& (63 : Int32)) = (49 : Int32)
      · have hf := tq_ifp hf c49
        refine tq_tabX (M := mL_law b n xs) (pc := 39) (tgt := 3231) (49 : Int32) c49 dL_law_39 (by decide +kernel) (by decide +kernel) (off := 3192) (by decide +kernel) (by decide) ?_
        refine tq_more (bc := 41 + 41 * k) (bs := 1143 + 7744 * k) (by omega) (by omega) ?_
        refine c_L_law_3231 hd9 hf (fun s9 q9 => ?_) (fun e9 q9 => ?_)
        · subst q9; exact ih s9.1 s9.2 o (tq_lc ho) hk
        · subst q9; cases (tq_lx ho); exact hk
      have hf := tq_ifn hf c49
      by_cases c50 : (x1 &&& (63 : Int32)) = (50 : Int32)
      · have hf := tq_ifp hf c50
        refine tq_tabX (M := mL_law b n xs) (pc := 39) (tgt := 3275) (50 : Int32) c50 dL_law_39 (by decide +kernel) (by decide +kernel) (off := 3236) (by decide +kernel) (by decide) ?_
        refine tq_more (bc := 2 + 41 * k) (bs := 12 + 7744 * k) (by omega) (by omega) ?_
        refine c_L_law_3275 hd9 hf (fun s9 q9 => ?_) (fun e9 q9 => ?_)
        · subst q9; exact ih s9.1 s9.2 o (tq_lc ho) hk
        · subst q9; cases (tq_lx ho); exact hk
      have hf := tq_ifn hf c50
      by_cases c51 : (x1 &&& (63 : Int32)) = (51 : Int32)
      · have hf := tq_ifp hf c51
        refine tq_tabX (M := mL_law b n xs) (pc := 39) (tgt := 3331) (51 : Int32) c51 dL_law_39 (by decide +kernel) (by decide +kernel) (off := 3292) (by decide +kernel) (by decide) ?_
        refine tq_more (bc := 17 + 41 * k) (bs := 7744 + 7744 * k) (by omega) (by omega) ?_
        refine c_L_law_3331 hd9 hf (fun s9 q9 => ?_) (fun e9 q9 => ?_)
        · subst q9; exact ih s9.1 s9.2 o (tq_lc ho) hk
        · subst q9; cases (tq_lx ho); exact hk
      have hf := tq_ifn hf c51
      by_cases c52 : (x1 &&& (63 : Int32)) = (52 : Int32)
      · have hf := tq_ifp hf c52
        refine tq_tabX (M := mL_law b n xs) (pc := 39) (tgt := 3399) (52 : Int32) c52 dL_law_39 (by decide +kernel) (by decide +kernel) (off := 3360) (by decide +kernel) (by decide) ?_
        refine tq_more (bc := 3 + 41 * k) (bs := 18 + 7744 * k) (by omega) (by omega) ?_
        refine c_L_law_3399 hd9 hf (fun s9 q9 => ?_) (fun e9 q9 => ?_)
        · subst q9; exact ih s9.1 s9.2 o (tq_lc ho) hk
        · subst q9; cases (tq_lx ho); exact hk
      have hf := tq_ifn hf c52
      by_cases c53 : (x1 &&& (63 : Int32)) = (53 : Int32)
      · have hf := tq_ifp hf c53
        refine tq_tabX (M := mL_law b n xs) (pc := 39) (tgt := 3479) (53 : Int32) c53 dL_law_39 (by decide +kernel) (by decide +kernel) (off := 3440) (by decide +kernel) (by decide) ?_
        refine tq_more (bc := 2 + 41 * k) (bs := 12 + 7744 * k) (by omega) (by omega) ?_
        refine c_L_law_3479 hd9 hf (fun s9 q9 => ?_) (fun e9 q9 => ?_)
        · subst q9; exact ih s9.1 s9.2 o (tq_lc ho) hk
        · subst q9; cases (tq_lx ho); exact hk
      have hf := tq_ifn hf c53
      by_cases c54 : (x1 &&& (63 : Int32)) = (54 : Int32)
      · have hf := tq_ifp hf c54
        refine tq_tabX (M := mL_law b n xs) (pc := 39) (tgt := 3542) (54 : Int32) c54 dL_law_39 (by decide +kernel) (by decide +kernel) (off := 3503) (by decide +kernel) (by decide) ?_
        refine tq_more (bc := 1 + 41 * k) (bs := 6 + 7744 * k) (by omega) (by omega) ?_
        refine c_L_law_3542 hd9 hf (fun s9 q9 => ?_) (fun e9 q9 => ?_)
        · subst q9; exact ih s9.1 s9.2 o (tq_lc ho) hk
        · subst q9; cases (tq_lx ho); exact hk
      have hf := tq_ifn hf c54
      have hD := tq_far (c := (x1 &&& (63 : Int32))) (n := 55) (by decide) (fun j hj => by match j, hj with
        | 0, _ => exact c0
        | 1, _ => exact c1
        | 2, _ => exact c2
        | 3, _ => exact c3
        | 4, _ => exact c4
        | 5, _ => exact c5
        | 6, _ => exact c6
        | 7, _ => exact c7
        | 8, _ => exact c8
        | 9, _ => exact c9
        | 10, _ => exact c10
        | 11, _ => exact c11
        | 12, _ => exact c12
        | 13, _ => exact c13
        | 14, _ => exact c14
        | 15, _ => exact c15
        | 16, _ => exact c16
        | 17, _ => exact c17
        | 18, _ => exact c18
        | 19, _ => exact c19
        | 20, _ => exact c20
        | 21, _ => exact c21
        | 22, _ => exact c22
        | 23, _ => exact c23
        | 24, _ => exact c24
        | 25, _ => exact c25
        | 26, _ => exact c26
        | 27, _ => exact c27
        | 28, _ => exact c28
        | 29, _ => exact c29
        | 30, _ => exact c30
        | 31, _ => exact c31
        | 32, _ => exact c32
        | 33, _ => exact c33
        | 34, _ => exact c34
        | 35, _ => exact c35
        | 36, _ => exact c36
        | 37, _ => exact c37
        | 38, _ => exact c38
        | 39, _ => exact c39
        | 40, _ => exact c40
        | 41, _ => exact c41
        | 42, _ => exact c42
        | 43, _ => exact c43
        | 44, _ => exact c44
        | 45, _ => exact c45
        | 46, _ => exact c46
        | 47, _ => exact c47
        | 48, _ => exact c48
        | 49, _ => exact c49
        | 50, _ => exact c50
        | 51, _ => exact c51
        | 52, _ => exact c52
        | 53, _ => exact c53
        | 54, _ => exact c54
        | j + 55, hj => exact absurd hj (by omega))
      refine tq_tabD (M := mL_law b n xs) (pc := 39) (tgt := 3605) dL_law_39 (by exact hD) (by decide) ?_
      refine tq_more (bc := 0 + 41 * k) (bs := 0 + 7744 * k) (by omega) (by omega) ?_
      refine c_L_law_3605 hd9 hf (fun s9 q9 => ?_) (fun e9 q9 => ?_)
      · subst q9; exact ih s9.1 s9.2 o (tq_lc ho) hk
      · subst q9; cases (tq_lx ho); exact hk
def f_L_law (n : Nat) (xs : Nat → Int32) (h : tq_H) : Option (Int32 × tq_H) :=
  tq_let (tq_new h (.inl (10, [.null, .null, .null, .null, .null, .null, .null, .null, .null, .null, .null, .null, .int 0, .int 0, .int 0, .long 0, .long 0, .int 0, .int 0]))) fun w1 =>
  (f_X10_init h.1 w1).bind fun v2 =>
  tq_let (tq_new v2 (.inl (11, [.int 0, .int 0, .null, .null, .null, .null, .null, .null, .null, .null, .int 0, .int 0, .null, .null, .null, .int 0, .null, .null, .null, .null, .null, .null, .null, .null, .int 0, .null, .null, .null, .null, .null, .null, .long 0, .int 0, .int 0, .null, .null, .null, .null, .null, .null, .null, .null, .int 0, .null, .null, .int 0, .null, .null, .null, .int 0, .null, .null, .null, .null, .null, .null, .null, .null, .null, .null, .null]))) fun w3 =>
  (f_X11_init v2.1 w3).bind fun v4 =>
  tq_let (tq_new v4 (.inr (2, (1, .inr (.inl (fun _ => 0)))))) fun w5 =>
  (tq_loop (f_L_law_b23 n xs h.1 v2.1 v4.1) 513 ((0 : Int32), w5))
set_option maxHeartbeats 4000000 in
set_option maxRecDepth 20000 in
theorem w_L_law {l : Launch} {d : Nat} (hd9 : 10 ≤ d) {b n : Nat} {xs : Nat → Int32} {h : tq_H} {o : Int32 × tq_H} {Q : tq_R → tq_H → Prop} (hf : f_L_law n xs h = some o) (hQ : Q (.inl (some (.int o.1))) o.2) : tq_W l (mL_law b n xs) d 601024 7293034 Q 0 [(0, .retAddr b)] [] h := by
  obtain ⟨w1, ew1, hf⟩ := tq_le hf
  refine tq_newo (M := mL_law b n xs) (pc := 0) tk_c10 dL_law_0 tk_RL_8 tk_in10 tk_ini10 (fs := [.null, .null, .null, .null, .null, .null, .null, .null, .null, .null, .null, .null, .int 0, .int 0, .int 0, .long 0, .long 0, .int 0, .int 0]) (fun j hj => by rcases (show j = 0 ∨ j = 1 ∨ j = 2 ∨ j = 3 ∨ j = 4 ∨ j = 5 ∨ j = 6 ∨ j = 7 ∨ j = 8 ∨ j = 9 ∨ j = 10 ∨ j = 11 ∨ j = 12 ∨ j = 13 ∨ j = 14 ∨ j = 15 ∨ j = 16 ∨ j = 17 ∨ j = 18 by omega) with rfl | rfl | rfl | rfl | rfl | rfl | rfl | rfl | rfl | rfl | rfl | rfl | rfl | rfl | rfl | rfl | rfl | rfl | rfl <;> rfl) (fun _ => ⟨rfl, rfl, rfl, rfl, rfl, rfl, rfl, rfl, rfl, rfl, rfl, rfl, rfl, rfl, rfl, rfl, rfl, rfl, rfl, trivial⟩) (bc' := 601023) (bs' := 7293015) rfl rfl ?_
  rw [← ew1]
  refine tq_dup (M := mL_law b n xs) (pc := 3) dL_law_3 rfl ?_
  obtain ⟨v2, ev2, hf⟩ := tq_be hf
  refine tq_calI (M := mL_law b n xs) (pc := 4) (S := [.ref h.1]) tk_y_X10_init tk_v_X10_init rfl (Or.inl tk_RL_167) dL_law_4 [] rfl (Nat.le_of_ble_eq_true rfl) (d1 := d - 1) (b1 := 154) (s1 := 6838) (bc' := 600869) (bs' := 7286177) (Q1 := fun r h9 => r = .inl none ∧ v2 = h9) (by omega) rfl rfl (w_X10_init (by omega) ev2 (fun _ _ q => q)) (fun E h9 q => nomatch (show (Sum.inr E : tq_R) = Sum.inl _ from q.1)) (fun r9 h9 q => ?_)
  obtain ⟨q1, rfl⟩ := q
  cases (show (Sum.inl r9 : tq_R) = Sum.inl (none) from q1)
  refine tq_astore_n (M := mL_law b n xs) (pc := 7) rfl dL_law_7 (L2 := [(1, .ref h.1), (0, .retAddr b)]) (Nat.le_of_ble_eq_true rfl) rfl ?_
  obtain ⟨w3, ew3, hf⟩ := tq_le hf
  refine tq_newo (M := mL_law b n xs) (pc := 8) tk_c11 dL_law_8 tk_RL_168 tk_in11 tk_ini11 (fs := ([.int 0, .int 0, .null, .null, .null, .null, .null, .null, .null, .null, .int 0, .int 0, .null, .null, .null, .int 0, .null, .null, .null, .null, .null, .null, .null, .null, .int 0, .null, .null, .null, .null, .null, .null, .long 0, .int 0, .int 0, .null, .null, .null, .null, .null, .null, .null, .null, .int 0, .null, .null, .int 0, .null, .null, .null, .int 0, .null, .null, .null, .null, .null, .null, .null, .null, .null, .null, .null] : List Value)) (by decide +kernel) (fun _ => tq_frf _ _ rfl) (bc' := 600868) (bs' := 7286116) rfl rfl ?_
  rw [← ew3]
  refine tq_dup (M := mL_law b n xs) (pc := 11) dL_law_11 rfl ?_
  obtain ⟨v4, ev4, hf⟩ := tq_be hf
  refine tq_calI (M := mL_law b n xs) (pc := 12) (S := [.ref v2.1]) tk_y_X11_init tk_v_X11_init rfl (Or.inl tk_RL_170) dL_law_12 [] rfl (Nat.le_of_ble_eq_true rfl) (d1 := d - 1) (b1 := 49) (s1 := 19268) (bc' := 600819) (bs' := 7266848) (Q1 := fun r h9 => r = .inl none ∧ v4 = h9) (by omega) rfl rfl (w_X11_init (by omega) ev4 (fun _ _ q => q)) (fun E h9 q => nomatch (show (Sum.inr E : tq_R) = Sum.inl _ from q.1)) (fun r9 h9 q => ?_)
  obtain ⟨q1, rfl⟩ := q
  cases (show (Sum.inl r9 : tq_R) = Sum.inl (none) from q1)
  refine tq_astore_n (M := mL_law b n xs) (pc := 15) rfl dL_law_15 (L2 := [(2, .ref v2.1), (1, .ref h.1), (0, .retAddr b)]) (Nat.le_of_ble_eq_true rfl) rfl ?_
  refine tq_iconst (M := mL_law b n xs) (pc := 16) dL_law_16 tk_ki_1 ?_
  obtain ⟨w5, ew5, hf⟩ := tq_le hf
  refine tq_newl (M := mL_law b n xs) (pc := 17) dL_law_17 tk_ac_long (N := 1) (by decide +kernel) (by decide +kernel) (by decide) (bc' := 600818) (bs' := 7266847) rfl rfl ?_
  rw [← ew5]
  refine tq_astore_n (M := mL_law b n xs) (pc := 19) rfl dL_law_19 (L2 := [(3, .ref v4.1), (2, .ref v2.1), (1, .ref h.1), (0, .retAddr b)]) (Nat.le_of_ble_eq_true rfl) rfl ?_
  refine tq_iconst (M := mL_law b n xs) (pc := 20) dL_law_20 tk_ki_0 ?_
  refine tq_istore (M := mL_law b n xs) (pc := 21) dL_law_21 (L2 := [(4, .int (0 : Int32)), (3, .ref v4.1), (2, .ref v2.1), (1, .ref h.1), (0, .retAddr b)]) (Nat.le_of_ble_eq_true rfl) rfl ?_
  refine tq_pick (L2 := [(0, .retAddr b), (1, .ref h.1), (2, .ref v2.1), (3, .ref v4.1), (4, .int (0 : Int32))]) [4, 3, 2, 1, 0] rfl ?_
  refine tq_more (bc := 41 * 513) (bs := 7744 * 513) (by decide) (by decide) ?_
  exact l_L_law hd9 513 _ _ o hf hQ
