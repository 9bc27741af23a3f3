/-! ===== the reference's order, also where two attributes have one name ===== -/
/-- an attribute that no later one of its name stands for; or none -/
noncomputable def lst (R : Rws) (L : List Nat) (w : Nat) : Bool := by
  classical
  exact decide (R.1 w = 2 → ∀ u, u ∈ L → R.1 u = 2 → R.2.1 u = R.2.1 w → u ≤ w)
noncomputable def tF (F : Nat → List Nat) (R : Rws) (v : Nat) : List Nat := (F v).filter (lst R (F v))
/-- attributes stand first, by name -/
def AoF (F : Nat → List Nat) (R : Rws) : Prop := ∀ v, (F v).Pairwise (fun a b => R.1 b = 2 → R.1 a = 2 ∧ ∃ k l, k ≤ l ∧ l < 8 ∧ R.2.1 a = nI k ∧ R.2.1 b = nI l)
noncomputable def tT (F : Nat → List Nat) (R : Rws) (v : Nat) : Int32 := by
  classical
  exact if Rch (tF F R) v then 1 else 0
section TWF
variable {S : tq_H} {c c' : tc_C} {z m i j k v w p M : Nat} {U : Ups} {D : Doc} {F : Nat → List Nat} {pa : Nat → Nat} {R : Rws}
theorem lst_iff {L : List Nat} : lst R L w = true ↔ (R.1 w = 2 → ∀ u, u ∈ L → R.1 u = 2 → R.2.1 u = R.2.1 w → u ≤ w) := by unfold lst; exact decide_eq_true_iff
theorem tF_mem : w ∈ tF F R v ↔ w ∈ F v ∧ lst R (F v) w = true := by unfold tF; exact List.mem_filter
theorem tF_frs (h : Frs0 F pa) : Frs0 (tF F R) pa := ⟨fun v w hw => h.1 v w (tF_mem.mp hw).1, fun v => (h.2 v).sublist List.filter_sublist⟩
theorem tF_rch (h : Rch (tF F R) v) : Rch F v := by
  obtain ⟨k, hk⟩ := h
  refine ⟨k, ?_⟩
  induction k generalizing v with
  | zero => exact hk
  | succ k ih =>
    obtain ⟨u, h1, h2⟩ := hk
    exact ⟨u, ih h1, (tF_mem.mp h2).1⟩
theorem tF_rws (hR : RwsF F R) : RwsF (tF F R) R := by
  obtain ⟨r1, r2, r3, r4, r5, r6⟩ := hR
  exact ⟨r1, fun v w hv hw => r2 v w (tF_rch hv) (tF_mem.mp hw).1, fun v hv => r3 v (tF_rch hv), fun v hv => r4 v (tF_rch hv), fun v hv => r5 v (tF_rch hv), fun v hv => r6 v (tF_rch hv)⟩
theorem tF_id (h : ∀ v a b, a ∈ F v → b ∈ F v → R.1 a = 2 → R.1 b = 2 → R.2.1 a = R.2.1 b → a = b) : tF F R = F := by
  funext v
  unfold tF
  rw [List.filter_eq_self]
  intro a ha
  exact lst_iff.mpr fun h2 u hu h3 h4 => Nat.le_of_eq (h v u a hu ha h3 h2 h4)
theorem tF_ao (h : Frs0 F pa) (hA : AoF F R) : (mkF (tF F R) pa R).ao := by
  intro i j hi hij hj hup hk
  have hf := tF_frs (R := R) h
  obtain ⟨u1, X, Y, e1, e2⟩ := mkF_kid' (R := R) hf hi (show i < (mkF (tF F R) pa R).n by omega)
  obtain ⟨u2, X', Y', e3, e4⟩ := mkF_kid' (R := R) hf (show 0 < j by omega) hj
  rw [← hup] at e3 e4
  have hk : R.1 ((mkF (tF F R) pa R).ord j) = 2 := hk
  show R.1 ((mkF (tF F R) pa R).ord i) = 2 ∧ ∃ k l, k < l ∧ l < 8 ∧ R.2.1 ((mkF (tF F R) pa R).ord i) = nI k ∧ R.2.1 ((mkF (tF F R) pa R).ord j) = nI l
  generalize (mkF (tF F R) pa R).ord i = a at *
  generalize (mkF (tF F R) pa R).ord j = b at *
  generalize (mkF (tF F R) pa R).ord ((mkF (tF F R) pa R).up i) = v at *
  have hX : ∃ as, X' = X ++ a :: as := by
    have e5 := e1
    rw [e3] at e5
    rcases List.append_eq_append_iff.mp e5 with ⟨as, h1, h2⟩ | ⟨as, h1, h2⟩
    · rw [h1, szF_app] at e2; omega
    · cases as with
      | nil => rw [List.append_nil] at h1; rw [h1] at e4; omega
      | cons a' as =>
        rw [List.cons_append, List.cons.injEq] at h2
        exact ⟨as, by rw [h1, h2.1]⟩
  obtain ⟨as, rfl⟩ := hX
  have hl : tF F R v = X ++ (a :: (as ++ b :: Y')) := by rw [e3]; simp
  have hpw : (tF F R v).Pairwise (fun a b => R.1 b = 2 → R.1 a = 2 ∧ ∃ k l, k ≤ l ∧ l < 8 ∧ R.2.1 a = nI k ∧ R.2.1 b = nI l) := (hA v).sublist List.filter_sublist
  have hnd : (tF F R v).Nodup := hf.2 v
  have ha : a ∈ tF F R v := by rw [hl]; simp
  have hb : b ∈ tF F R v := by rw [hl]; simp
  rw [hl] at hpw hnd
  obtain ⟨k1, k, l, k2, k3, k4, k5⟩ := (List.pairwise_cons.mp (List.pairwise_append.mp hpw).2.1).1 b (by simp) hk
  refine ⟨k1, k, l, ?_, k3, k4, k5⟩
  rcases Nat.lt_or_ge k l with q | q
  · exact q
  · exfalso
    have : k = l := by omega
    subst this
    have l1 := lst_iff.mp (tF_mem.mp ha).2 k1 b (tF_mem.mp hb).1 hk (by rw [k4, k5])
    have l2 := lst_iff.mp (tF_mem.mp hb).2 hk a (tF_mem.mp ha).1 k1 (by rw [k4, k5])
    have hab : a ≠ b := fun z => by
      rw [List.nodup_append] at hnd
      have := (List.nodup_cons.mp hnd.2.1).1
      exact this (by rw [z]; simp)
    omega
theorem RRF.af (g : RRF c F R M) (k : Af c c') : RRF c' F R M := by
  obtain ⟨k1, k2, k3, k4, -⟩ := k
  unfold RRF
  rw [k1 163 (by omega), k1 156 (by omega), k1 157 (by omega), k1 158 (by omega), k1 159 (by omega), k1 160 (by omega), k1 161 (by omega), k4 1 (by omega)]
  exact g
theorem tT_1 (h : Rch (tF F R) v) : tT F R v = 1 := if_pos h
theorem tT_0 (h : ¬ Rch (tF F R) v) : tT F R v = 0 := if_neg h
theorem RRF.tw (g : RRF c F R M) : RRF (tc_I c 163 (tT F R)) (tF F R) R M := by
  obtain ⟨g1, ⟨g2, g2'⟩, g3, g4, g5, g6, g7⟩ := g
  refine ⟨g1, ⟨g2, fun v hv => g2' v (tF_rch hv)⟩, fun v hv => ?_, fun v hv => ?_, ?_, fun v w hv hw => ?_, fun v X w Y hv hF hk => ?_⟩
  · simp (maxSteps := 3000000) (disch := omega) only [Option.bind_some, tc_bs, tq_let, tc_I1, tc_I2, tc_J1, tc_J2, tc_J3, tc_F1, tc_F2, tc_F3, tc_F4, tc_G1, tc_G2, tc_G3, tc_G4, tc_G5, tc_us, tc_un, s_one, s_holds, s_J13_bitCount, bz_bI, if_true]
    exact ⟨fun h => tT_1 h, fun h => tT_0 h⟩
  · simp (maxSteps := 3000000) (disch := omega) only [Option.bind_some, tc_bs, tq_let, tc_I1, tc_I2, tc_J1, tc_J2, tc_J3, tc_F1, tc_F2, tc_F3, tc_F4, tc_G1, tc_G2, tc_G3, tc_G4, tc_G5, tc_us, tc_un, s_one, s_holds, s_J13_bitCount, bz_bI, if_true]
    exact g4 v (tF_rch hv)
  · simp (maxSteps := 3000000) (disch := omega) only [Option.bind_some, tc_bs, tq_let, tc_I1, tc_I2, tc_J1, tc_J2, tc_J3, tc_F1, tc_F2, tc_F3, tc_F4, tc_G1, tc_G2, tc_G3, tc_G4, tc_G5, tc_us, tc_un, s_one, s_holds, s_J13_bitCount, bz_bI, if_true]; exact g5
  · simp (maxSteps := 3000000) (disch := omega) only [Option.bind_some, tc_bs, tq_let, tc_I1, tc_I2, tc_J1, tc_J2, tc_J3, tc_F1, tc_F2, tc_F3, tc_F4, tc_G1, tc_G2, tc_G3, tc_G4, tc_G5, tc_us, tc_un, s_one, s_holds, s_J13_bitCount, bz_bI, if_true]; exact g6 v w (tF_rch hv) (tF_mem.mp hw).1
  · simp (maxSteps := 3000000) (disch := omega) only [Option.bind_some, tc_bs, tq_let, tc_I1, tc_I2, tc_J1, tc_J2, tc_J3, tc_F1, tc_F2, tc_F3, tc_F4, tc_G1, tc_G2, tc_G3, tc_G4, tc_G5, tc_us, tc_un, s_one, s_holds, s_J13_bitCount, bz_bI, if_true]
    unfold tF at hF
    obtain ⟨l1, l2, e1, e2, e3⟩ := List.filter_eq_append_iff.mp hF
    obtain ⟨m1, m2, e4, e5, e6, e7⟩ := List.filter_eq_cons_iff.mp e3
    have hdrop : ∀ u, u ∈ l1 ++ m1 → ¬ lst R (F v) u = true → R.1 u = 2 := fun u _ h => by
      refine Classical.byContradiction fun z => h (lst_iff.mpr fun y => absurd y z)
    rw [g7 v (l1 ++ m1) w m2 (tF_rch hv) (by rw [e1, e4, List.append_assoc]) hk]
    congr 2
    rw [List.filter_append, ← e2, List.filter_filter]
    have f1 : m1.filter (fun u => decide (R.1 u ≠ 2)) = [] := by
      rw [List.filter_eq_nil_iff]
      intro u hu h
      exact (of_decide_eq_true h) (hdrop u (List.mem_append_right _ hu) (e5 u hu))
    rw [f1, List.append_nil]
    refine List.filter_congr fun u hu => ?_
    by_cases q : R.1 u = 2
    · simp [q]
    · have : lst R (F v) u = true := lst_iff.mpr fun y => absurd y q
      simp [q, this]
theorem lastN_max {p : Nat → Bool} : ∀ {n : Nat}, k < n → p k = true → (∀ j, k < j → j < n → p j = false) → lastN p n = nI k := by
  intro n
  induction n with
  | zero => intro h; exact absurd h (Nat.not_lt_zero _)
  | succ n ih =>
    intro h1 h2 h3
    rw [lastN]
    by_cases q : k = n
    · rw [← q, if_pos h2]
    · rw [h3 n (by omega) (Nat.lt_succ_self _), if_neg (by decide)]
      exact ih (by omega) h2 fun j a b => h3 j a (by omega)
theorem lastN_same {p q : Nat → Bool} {n : Nat} (h1 : ∀ k, k < n → q k = true → p k = true) (h2 : ∀ k, k < n → p k = true → q k = false → ∃ j, k < j ∧ j < n ∧ q j = true) : lastN p n = lastN q n := by
  by_cases e : ∃ k, k < n ∧ p k = true
  · obtain ⟨k, k1, k2, k3⟩ := fb_last e
    have k3' : ∀ j, k < j → j < n → p j = false := fun j a b => by
      cases e : p j with
      | false => rfl
      | true => exact absurd e (k3 j a b)
    have hq : q k = true := by
      cases e : q k with
      | true => rfl
      | false =>
        obtain ⟨j, j1, j2, j3⟩ := h2 k k1 k2 e
        exact absurd (h1 j j2 j3) (k3 j j1 j2)
    rw [lastN_max k1 k2 k3', lastN_max k1 hq fun j a b => by
      cases e : q j with
      | false => rfl
      | true => exact absurd (h1 j b e) (k3 j a b)]
  · have hp : ∀ k, k < n → p k = false := fun k hk => by
      cases e2 : p k with
      | false => rfl
      | true => exact absurd ⟨k, hk, e2⟩ e
    rw [lastN_no hp, lastN_no fun k hk => by
      cases e2 : q k with
      | false => rfl
      | true => have z := h1 k hk e2; rw [hp k hk] at z; cases z]
theorem RRF.ans (hM : tc_Mod S z) (h : Frs0 F pa) (hR : RwsF F R) (hA : AoF F R) (g : RRF c F R M) : Ans S c (mkF (tF F R) pa R) := by
  have hf := tF_frs (R := R) h
  have hw := mkF_wf hf (tF_rws hR)
  have hT := RRF.tree hf (tF_rws hR) g.tw
  obtain ⟨a1, a2, a3, a4⟩ := RTree.ans (S := S) hM hw hT (tF_ao h hA)
  obtain ⟨g1, ⟨g2, g2'⟩, g3, g4, g5, g6, g7⟩ := g
  have e163 : ∀ k, (tc_I c 163 (tT F R)).1 163 k = tT F R k := fun k => by rw [tc_I1, tc_us]
  have eo : ∀ a, a ≠ 163 → (tc_I c 163 (tT F R)).1 a = c.1 a := fun a ha => by rw [tc_I1, tc_un _ _ ha]
  have tin : ∀ k, k < M → tT F R k ≠ 0 → c.1 163 k ≠ 0 := fun k hk ht => by
    by_cases q : Rch (tF F R) k
    · rw [(g3 k (by omega)).1 (tF_rch q)]; decide
    · exact absurd (tT_0 q) ht
  -- a child by the rows is a child in the lists
  have hin : ∀ i k, i < (mkF (tF F R) pa R).n → k < M → c.1 163 k ≠ 0 → c.1 160 k = nI ((mkF (tF F R) pa R).ord i) → Rch F k ∧ k ∈ F ((mkF (tF F R) pa R).ord i) := fun i k hi hk h1 h2 => by
    have hi60 := (mkF (tF F R) pa R).ord_lt hw hi
    have hr : Rch F k := by
      refine Classical.byContradiction fun z => h1 ((g3 k (by omega)).2 z)
    refine ⟨hr, ?_⟩
    by_cases q : k = 0
    · rw [q, g5] at h2; exact absurd h2.symm (nI_nm1 (by omega))
    · obtain ⟨u1, u2⟩ := rch_up h hr q
      have := g6 _ _ u2 u1
      rw [h2] at this
      have h60 : pa k < 60 := by have := g2' _ u2; omega
      rw [(nI_eq (by omega) (by omega)).mp this]; exact u1
  have hkid : ∀ i k, i < (mkF (tF F R) pa R).n → k < M → isKid c (nI ((mkF (tF F R) pa R).ord i)) k = isKid (tc_I c 163 (tT F R)) (nI ((mkF (tF F R) pa R).ord i)) k := fun i k hi hk => by
    unfold isKid
    rw [e163, eo 160 (by decide), eo 156 (by decide)]
    refine Bool.ext_iff ?_
    rw [decide_eq_true_iff, decide_eq_true_iff]
    constructor
    · rintro ⟨h1, h2, h3⟩
      obtain ⟨hr, hm⟩ := hin i k hi hk h1 h2
      have hk3 : R.1 k ≠ 2 := by rw [← (g4 k hr).1]; exact h3
      have : k ∈ tF F R ((mkF (tF F R) pa R).ord i) := tF_mem.mpr ⟨hm, lst_iff.mpr fun y => absurd y hk3⟩
      exact ⟨by rw [tT_1 (rch_kid (mkF_rch hf hi) this)]; decide, h2, h3⟩
    · rintro ⟨h1, h2, h3⟩
      exact ⟨tin k hk h1, h2, h3⟩
  have hatt : ∀ i y, i < (mkF (tF F R) pa R).n → f_X11_attributeOf 155 (nI ((mkF (tF F R) pa R).ord i)) y (tc_mk S c) = f_X11_attributeOf 155 (nI ((mkF (tF F R) pa R).ord i)) y (tc_mk S (tc_I c 163 (tT F R))) := fun i y hi => by
    rw [s_attributeOf' hM g2 g1, s_attributeOf' hM g2 (show (tc_I c 163 (tT F R)).2.2.1 155 1 = nI M from g1)]
    congr 1
    rw [eo 157 (by decide)]
    refine lastN_same (fun k hk hq => ?_) (fun k hk hp hq => ?_)
    · rw [Bool.and_eq_true] at hq ⊢
      refine ⟨?_, hq.2⟩
      have h1 := of_decide_eq_true hq.1
      rw [e163, eo 160 (by decide), eo 156 (by decide)] at h1
      exact decide_eq_true ⟨tin k hk h1.1, h1.2.1, h1.2.2⟩
    · rw [Bool.and_eq_true] at hp
      obtain ⟨h1, h2, h3⟩ := of_decide_eq_true hp.1
      have hy := of_decide_eq_true hp.2
      obtain ⟨hr, hm⟩ := hin i k hi hk h1 h2
      have hnr : ¬ Rch (tF F R) k := fun z => by
        have : (isAtt (tc_I c 163 (tT F R)) (nI ((mkF (tF F R) pa R).ord i)) k && decide (c.1 157 k = y)) = true := by
          rw [Bool.and_eq_true]
          refine ⟨decide_eq_true ?_, hp.2⟩
          rw [e163, eo 160 (by decide), eo 156 (by decide), tT_1 z]
          exact ⟨by decide, h2, h3⟩
        rw [hq] at this; cases this
      have hk2 : R.1 k = 2 := by rw [← (g4 k hr).1]; exact h3
      have hyk : R.2.1 k = y := by rw [← (g4 k hr).2.1]; exact hy
      have hex : ∃ u, u < 60 ∧ (u ∈ F ((mkF (tF F R) pa R).ord i) ∧ R.1 u = 2 ∧ R.2.1 u = R.2.1 k ∧ k < u) := by
        refine Classical.byContradiction fun z => hnr (rch_kid (mkF_rch hf hi) (tF_mem.mpr ⟨hm, lst_iff.mpr fun _ u hu h4 h5 => ?_⟩))
        rcases Nat.lt_or_ge k u with q | q
        · exact absurd ⟨u, (h.1 _ _ hu).2.1, hu, h4, h5, q⟩ z
        · exact q
      classical
      obtain ⟨u, u1, ⟨u2, u3, u4, u5⟩, u6⟩ := fb_last (p := fun u => u ∈ F ((mkF (tF F R) pa R).ord i) ∧ R.1 u = 2 ∧ R.2.1 u = R.2.1 k ∧ k < u) hex
      have hri : Rch F ((mkF (tF F R) pa R).ord i) := tF_rch (mkF_rch hf hi)
      have hru : Rch F u := rch_kid hri u2
      have hkeep : u ∈ tF F R ((mkF (tF F R) pa R).ord i) := tF_mem.mpr ⟨u2, lst_iff.mpr fun _ x hx h4 h5 => by
        rcases Nat.lt_or_ge u x with q | q
        · exact absurd ⟨hx, h4, by rw [h5, u4], by omega⟩ (u6 x q (h.1 _ _ hx).2.1)
        · exact q⟩
      refine ⟨u, u5, g2' u hru, ?_⟩
      rw [Bool.and_eq_true]
      refine ⟨decide_eq_true ?_, decide_eq_true ?_⟩
      · rw [e163, eo 160 (by decide), eo 156 (by decide), tT_1 (rch_kid (mkF_rch hf hi) hkeep), g6 _ _ hri u2, (g4 u hru).1]
        exact ⟨by decide, rfl, u3⟩
      · rw [(g4 u hru).2.1, u4, hyk]
  refine ⟨fun i j w hi hj e hw8 => by rw [hatt i _ hi]; exact a1 i j w hi hj e hw8, fun i w hi hw8 hn => by rw [hatt i _ hi]; exact a2 i w hi hw8 hn, fun i hi => ?_, fun i y hi => ?_⟩
  · have h1 := a3 i hi
    rw [s_childCount' hM g2 (show (tc_I c 163 (tT F R)).2.2.1 155 1 = nI M from g1)] at h1
    rw [s_childCount' hM g2 g1, ← h1]
    congr 2
    exact fb_ct_cong fun k hk => hkid i k hi hk
  · have h1 := a4 i y hi
    rw [s_childAt' hM g2 (show (tc_I c 163 (tT F R)).2.2.1 155 1 = nI M from g1)] at h1
    rw [s_childAt' hM g2 g1, ← h1, eo 161 (by decide)]
    congr 1
    refine lastN_same (fun k hk hq => ?_) (fun k hk hp hq => ?_)
    · rw [hkid i k hi hk]; exact hq
    · rw [← hkid i k hi hk, hp] at hq; cases hq
theorem RRF.arrange (hM : tc_Mod S z) (h : Frs0 F pa) (hR : RwsF F R) (hA : AoF F R) (g : RRF c F R M) :
    ∃ c', f_X11_arrange 155 (tc_mk S c) = some (tc_mk S c') ∧ ROrd c' (mkF (tF F R) pa R) ∧ Af c c' :=
  s_X11_arrange hM (mkF_wf (tF_frs h) (tF_rws hR)) (tF_ao h hA) fun x hx => (g.af hx).ans hM h hR hA
theorem cutL_pw {f : Nat → List Nat} {r : Nat → Nat → Prop} : ∀ n, (∀ k, k < n → (f k).Pairwise r) → (∀ j k, j < k → k < n → ∀ a, a ∈ f j → ∀ b, b ∈ f k → r a b) → (cutL f n).Pairwise r := by
  intro n
  induction n with
  | zero => intro _ _; exact List.Pairwise.nil
  | succ n ih =>
    intro h1 h2
    rw [cutL_succ, List.pairwise_append]
    refine ⟨ih (fun k hk => h1 k (by omega)) (fun j k a b => h2 j k a (by omega)), h1 n (by omega), fun a ha b hb => ?_⟩
    obtain ⟨k, k1, k2⟩ := cutL_mem.mp ha
    exact h2 k n k1 (by omega) a k2 b hb
theorem Ups.aoF (hw : D.wf) (hu : U.wf m D) : AoF (U.F m D) (U.new m D) := by
  intro v
  by_cases q : ∃ i, i < D.n ∧ D.ord i = v
  · obtain ⟨i, hi, rfl⟩ := q
    rw [U.F_at hw hi]
    split
    · have hfl : U.fL m D i = cutL (U.aL m D i) 8 ++ U.KL m D i := rfl
      rw [hfl, List.pairwise_append]
      have hKk : ∀ u, u ∈ U.KL m D i → (U.new m D).1 u ≠ 2 := fun u hu2 => by
        obtain ⟨x, -, h⟩ := cutL_mem.mp hu2
        exact U.kL_kd hw hu h
      refine ⟨cutL_pw _ (fun x hx => List.pairwise_iff_getElem.mpr fun i j h1 h2 _ _ => ?_) (fun x y hxy hy a ha b hb _ => ?_), List.pairwise_iff_getElem.mpr fun i j h1 h2 _ z => absurd z (hKk _ (List.getElem_mem h2)), fun a _ b hb z => absurd z (hKk b hb)⟩
      · have a1 := U.aL_kd hw hu (List.getElem_mem h1)
        have a2 := U.aL_kd hw hu (List.getElem_mem h2)
        exact ⟨a1.1, x, x, Nat.le_refl _, hx, a1.2, a2.2⟩
      · have a1 := U.aL_kd hw hu ha
        have a2 := U.aL_kd hw hu hb
        exact ⟨a1.1, x, y, Nat.le_of_lt hxy, hy, a1.2, a2.2⟩
    · exact List.Pairwise.nil
  · have : U.F m D v = [] := by
      cases e : U.F m D v with
      | nil => rfl
      | cons a l =>
        exfalso
        obtain ⟨i, i1, i2, -⟩ := (U.F_mem hw).mp (show a ∈ U.F m D v by rw [e]; exact List.mem_cons_self)
        exact q ⟨i, i1, i2⟩
    rw [this]; exact List.Pairwise.nil
end TWF
