/-! ===== the reference marks what is new ===== -/
/-- a node of a set is above a spot, or stands there -/
def Doc.anB (D : Doc) (f : Nat → Bool) (j : Nat) : Bool := anyB (fun a => f (D.ord a) && decide (a = j ∨ (a < j ∧ j < D.en a))) D.n
def Ups.mv (U : Ups) (v : Nat) : Bool := anyB (fun j => decide (U.uw j = 4 ∧ U.ut j = v)) U.n
section MKN
variable {S : tq_H} {c c' : tc_C} {z b i j k v w m M : Nat} {U : Ups} {D E : Doc} {f g : Nat → Bool}
theorem Doc.anB_iff : D.anB f j = true ↔ ∃ a, a < D.n ∧ f (D.ord a) = true ∧ (a = j ∨ (a < j ∧ j < D.en a)) := by
  unfold Doc.anB
  rw [anyB_iff]
  constructor
  · rintro ⟨a, h1, h2⟩; rw [Bool.and_eq_true] at h2; exact ⟨a, h1, h2.1, of_decide_eq_true h2.2⟩
  · rintro ⟨a, h1, h2, h3⟩; exact ⟨a, h1, by rw [Bool.and_eq_true]; exact ⟨h2, decide_eq_true h3⟩⟩
theorem Doc.anB_0 (hw : D.wf) : D.anB f 0 = f (D.ord 0) := by
  refine Bool.ext_iff ?_
  rw [D.anB_iff]
  constructor
  · rintro ⟨a, h1, h2, h3 | h3⟩
    · rw [← h3]; exact h2
    · omega
  · intro h; exact ⟨0, D.n_pos hw, h, .inl rfl⟩
theorem Doc.anB_up (hw : D.wf) (h0 : 0 < j) (hj : j < D.n) : D.anB f j = (f (D.ord j) || D.anB f (D.up j)) := by
  refine Bool.ext_iff ?_
  have hu := D.up_lt hw h0 hj
  rw [Bool.or_eq_true, D.anB_iff, D.anB_iff]
  constructor
  · rintro ⟨a, h1, h2, h3 | ⟨h3, h4⟩⟩
    · left; rw [← h3]; exact h2
    · right
      have := (D.en_up hw h3 hj).mp h4
      exact ⟨a, h1, h2, by omega⟩
  · rintro (h | ⟨a, h1, h2, h3⟩)
    · exact ⟨j, hj, h, .inl rfl⟩
    · have haj : a < j := by omega
      refine ⟨a, h1, h2, .inr ⟨haj, (D.en_up hw haj hj).mpr ⟨by omega, ?_⟩⟩⟩
      rcases h3 with h3 | h3
      · have := D.en_gt hw h1; omega
      · exact h3.2
theorem Doc.frQ_an (hj : j < D.n) : D.frQ f j = (D.anB f j && decide (D.kd j ≠ 2)) := by
  unfold Doc.frQ Doc.spread
  have e : ((decide (j < D.n) && f (D.ord j)) || anyB (fun s => (decide (s < D.n) && f (D.ord s)) && decide (s < j ∧ j < D.en s)) D.n) = D.anB f j := by
    refine Bool.ext_iff ?_
    rw [Bool.or_eq_true, D.anB_iff, anyB_iff]
    constructor
    · rintro (h | ⟨a, h1, h2⟩)
      · rw [Bool.and_eq_true] at h; exact ⟨j, hj, h.2, .inl rfl⟩
      · simp only [Bool.and_eq_true, decide_eq_true_iff] at h2
        exact ⟨a, h1, h2.1.2, .inr h2.2⟩
    · rintro ⟨a, h1, h2, h3 | h3⟩
      · left; rw [h3] at h2; rw [Bool.and_eq_true]; exact ⟨decide_eq_true hj, h2⟩
      · right
        exact ⟨a, h1, by rw [Bool.and_eq_true, Bool.and_eq_true, decide_eq_true_iff, decide_eq_true_iff]; exact ⟨⟨h1, h2⟩, h3⟩⟩
  dsimp only
  rw [e]
  congr 1
  exact Bool.ext_iff (by rw [decide_eq_true_iff, decide_eq_true_iff]; exact ⟨fun h => h.2, fun h => ⟨hj, h⟩⟩)
/-- new is what was not there, or is moved with something -/
theorem Ups.fr_new (hw : D.wf) (hu : U.wf m D) (hok : U.ok) (hr : m + U.ins U.n ≤ 60) (hj : j < (U.doc m D).n) :
    (U.doc m D).anB (U.fr m U.n) j = (!D.nodesOf (fun _ => true) ((U.doc m D).ord j) || (U.doc m D).anB U.mv j) := by
  have hf := U.frs hw hu hok hr
  have hw2 := U.doc_wf hw hu hok hr
  have hin : ∀ a, a < (U.doc m D).n → Rch (U.F m D) ((U.doc m D).ord a) := fun a ha => mkF_rch (R := U.new m D) hf ha
  have hnd : ∀ v, D.nodesOf (fun _ => true) v = true ↔ ∃ i, i < D.n ∧ D.ord i = v := fun v => by
    unfold Doc.nodesOf
    rw [anyB_iff]
    constructor
    · rintro ⟨i, h1, h2⟩; simp at h2; exact ⟨i, h1, h2.symm⟩
    · rintro ⟨i, h1, h2⟩; exact ⟨i, h1, by simp [h2]⟩
  have hfr : ∀ v, U.fr m U.n v = true ↔ ∃ k, k < U.n ∧ (U.uw k = 0 ∨ U.uw k = 4) ∧ U.sj m k = v := fun v => by
    unfold Ups.fr
    rw [anyB_iff]
    constructor
    · rintro ⟨k, h1, h2⟩; exact ⟨k, h1, of_decide_eq_true h2⟩
    · rintro ⟨k, h1, h2⟩; exact ⟨k, h1, decide_eq_true h2⟩
  have hmv : ∀ v, U.mv v = true ↔ ∃ k, k < U.n ∧ U.uw k = 4 ∧ U.ut k = v := fun v => by
    unfold Ups.mv
    rw [anyB_iff]
    constructor
    · rintro ⟨k, h1, h2⟩; exact ⟨k, h1, of_decide_eq_true h2⟩
    · rintro ⟨k, h1, h2⟩; exact ⟨k, h1, decide_eq_true h2⟩
  refine Bool.ext_iff ?_
  rw [Bool.or_eq_true, Bool.not_eq_true', Doc.anB_iff, Doc.anB_iff]
  constructor
  · rintro ⟨a, h1, h2, h3⟩
    obtain ⟨k, k1, k2, k3⟩ := (hfr _).mp h2
    rcases k2 with k2 | k2
    · left
      have hs : U.sj m k = m + U.ins k := if_pos k2
      have hout : ∀ i, i < D.n → D.ord i ≠ (U.doc m D).ord a := fun i hi e => by
        have := hu.1.2.2 i hi; omega
      have hleaf : a = j := by
        rcases h3 with h3 | h3
        · exact h3
        · exfalso
          have hnil : U.F m D ((U.doc m D).ord a) = [] := by
            cases e : U.F m D ((U.doc m D).ord a) with
            | nil => rfl
            | cons x l =>
              obtain ⟨i, i1, i2, -⟩ := (U.F_mem hw).mp (show x ∈ U.F m D ((U.doc m D).ord a) by rw [e]; exact List.mem_cons_self)
              exact absurd i2 (hout i i1)
          have hen := mkF_en (R := U.new m D) hf h1
          rw [show (mkF (U.F m D) (U.pa m D) (U.new m D)).ord a = (U.doc m D).ord a from rfl, hnil] at hen
          have hen : (U.doc m D).en a = a + 1 + 0 := hen
          omega
      subst hleaf
      cases e : D.nodesOf (fun _ => true) ((U.doc m D).ord a) with
      | false => rfl
      | true =>
        obtain ⟨i, i1, i2⟩ := (hnd _).mp e
        exact absurd i2 (hout i i1)
    · right
      refine ⟨a, h1, (hmv _).mpr ⟨k, k1, k2, ?_⟩, h3⟩
      rw [← k3]; exact (if_neg (by omega)).symm
  · rintro (h | ⟨a, h1, h2, h3⟩)
    · refine ⟨j, hj, ?_, .inl rfl⟩
      rcases U.rch_In hw hu (hin j hj) with ⟨i, i1, i2⟩ | ⟨k, k1, k2, k3⟩
      · rw [(hnd _).mpr ⟨i, i1, i2.symm⟩] at h; cases h
      · exact (hfr _).mpr ⟨k, k1, .inl k2, by rw [k3]; exact if_pos k2⟩
    · obtain ⟨k, k1, k2, k3⟩ := (hmv _).mp h2
      exact ⟨a, h1, (hfr _).mpr ⟨k, k1, .inr k2, by rw [← k3]; exact if_neg (by omega)⟩, h3⟩
/-- the way up, for one node -/
theorem s_X11_mark44 (hM : tc_Mod S z) (hwD : D.wf) (hu : U.wf m D) (hw : E.wf) (hR : RTree c E M) (hUR : UR c U) (hi : i < E.n) (x : Int64) (p : Bool) :
    tq_loop (f_X11_markNew_b44 155 x (nI (E.ord i)) (tc_mk S c)) tq_N (bI p, nI (E.ord i)) = some (bI (p || E.anB U.mv i)) := by
  obtain ⟨r1, r2, r3, r4, r5, r6, r7, r8, r9, r10⟩ := hR
  have hE := E.n_le hw
  have h60 := E.ord_lt hw hi
  obtain ⟨o, o1, o2⟩ := tc_gh (B := f_X11_markNew_b44 155 x (nI (E.ord i)) (tc_mk S c))
    (fun n s => (n = 0 ∧ s = (bI (p || E.anB U.mv i), (-1 : Int32))) ∨ ∃ a q, a < E.n ∧ n = a + 1 ∧ s = (bI q, nI (E.ord a)) ∧ (q || E.anB U.mv a) = (p || E.anB U.mv i))
    (fun o => o = bI (p || E.anB U.mv i)) (fun n s hs => by
      rcases hs with ⟨rfl, rfl⟩ | ⟨a, q, ha, rfl, rfl, hq⟩
      · right
        exact ⟨_, by simp only [f_X11_markNew_b44, ↓reduceIte], rfl⟩
      · left
        have n1 : ¬ nI (E.ord a) = (-1 : Int32) := nI_nm1 (by have := E.ord_lt hw ha; omega)
        have e1 : c.1 163 (E.ord i) = 1 := r3 i hi
        have n10 : ¬ (1 : Int32) = 0 := by decide
        have el := s_X11_isListed (c := c) hM hwD hu hUR (E.ord_lt hw ha) (a := 4) (by decide) (by decide)
        have el : f_X11_isListed 155 (nI (E.ord a)) 4 (tc_mk S c) = some (bI (U.mv (E.ord a))) := el
        have e9 := r9 a ha
        have ha60 := E.ord_lt hw ha
        have hstep : f_X11_markNew_b44 155 x (nI (E.ord i)) (tc_mk S c) (bI q, nI (E.ord a)) = some (.inl (bI (q || U.mv (E.ord a)), E.upN a)) := by
          cases q with
          | true =>
            have b1 : ¬ bI true = 0 := by decide
            rw [Bool.true_or]
            simp (maxSteps := 3000000) (disch := omega) only [Option.bind_some, tc_bs, tq_let, tc_I1, tc_I2, tc_J1, tc_J2, tc_J3, tc_F1, tc_F2, tc_F3, tc_F4, tc_G1, tc_G2, tc_G3, tc_G4, tc_G5, tc_us, tc_un, s_one, s_holds, s_J13_bitCount, bz_bI, f_X11_markNew_b44, hM.f, n1, e1, n10, b1, e9, if_true, if_false]; rfl
          | false =>
            have b0 : bI false = 0 := rfl
            rw [Bool.false_or]
            cases hm : U.mv (E.ord a) with
            | true =>
              rw [hm] at el
              have b1 : ¬ bI true = 0 := by decide
              simp (maxSteps := 3000000) (disch := omega) only [Option.bind_some, tc_bs, tq_let, tc_I1, tc_I2, tc_J1, tc_J2, tc_J3, tc_F1, tc_F2, tc_F3, tc_F4, tc_G1, tc_G2, tc_G3, tc_G4, tc_G5, tc_us, tc_un, s_one, s_holds, s_J13_bitCount, bz_bI, f_X11_markNew_b44, hM.f, n1, e1, n10, b0, b1, el, e9, if_true, if_false]; rfl
            | false =>
              rw [hm] at el
              simp (maxSteps := 3000000) (disch := omega) only [Option.bind_some, tc_bs, tq_let, tc_I1, tc_I2, tc_J1, tc_J2, tc_J3, tc_F1, tc_F2, tc_F3, tc_F4, tc_G1, tc_G2, tc_G3, tc_G4, tc_G5, tc_us, tc_un, s_one, s_holds, s_J13_bitCount, bz_bI, f_X11_markNew_b44, hM.f, n1, e1, n10, b0, el, e9, if_true, if_false]
        by_cases z0 : a = 0
        · subst z0
          refine ⟨_, 0, hstep, .inl ⟨rfl, ?_⟩, Nat.succ_pos _⟩
          rw [E.anB_0 hw] at hq
          rw [hq]; rfl
        · have hup := E.up_lt hw (Nat.pos_of_ne_zero z0) ha
          refine ⟨_, E.up a + 1, hstep, .inr ⟨E.up a, q || U.mv (E.ord a), by omega, rfl, ?_, ?_⟩, by omega⟩
          · unfold Doc.upN; rw [if_neg z0]
          · rw [E.anB_up hw (Nat.pos_of_ne_zero z0) ha] at hq
            rw [← hq, Bool.or_assoc]) (.inr ⟨i, p, hi, rfl, rfl, rfl⟩) (by unfold tq_N; omega)
  rw [o1, o2]
theorem mod_sz174 (hM : tc_Mod S z) (r : Bool) : ∀ c k, k < 60 → tq_sz (tc_mk S c) 174 (nI k) (bI r) = some (tc_mk S (tc_I c 174 (upd (c.1 174) k (bI r)))) := by
  intro c k hk; simp (maxSteps := 3000000) (disch := omega) only [Option.bind_some, tc_bs, tq_let, tc_I1, tc_I2, tc_J1, tc_J2, tc_J3, tc_F1, tc_F2, tc_F3, tc_F4, tc_G1, tc_G2, tc_G3, tc_G4, tc_G5, tc_us, tc_un, s_one, s_holds, s_J13_bitCount, bz_bI, hM.f]
/-- marks for all that is there -/
theorem s_X11_markNew (hM : tc_Mod S z) (hwD : D.wf) (hu : U.wf m D) (hw : E.wf) (hR : RTree c E M) (hUR : UR c U) (P : Nat → Bool) (x : Int32) :
    ∃ c', f_X11_markNew 155 x (mkS P) (tc_mk S c) = some (tc_mk S c') ∧ (∀ j, j < E.n → c'.1 174 (E.ord j) = bI (!P (E.ord j) || E.anB U.mv j)) ∧ (∀ a, a ≠ 174 → c'.1 a = c.1 a) ∧ c'.2 = c.2 := by
  have hR0 := hR
  obtain ⟨r1, ⟨r2, r2'⟩, r3, r4, -⟩ := hR0
  obtain ⟨y, y1, y2, y3, y4⟩ := tc_run (B := f_X11_markNew_b3 155 (mkS P)) M (fun v y => (nI v, tc_mk S y)) (fun v y => (∀ j, j < E.n → E.ord j < v → y.1 174 (E.ord j) = bI (!P (E.ord j) || E.anB U.mv j)) ∧ (∀ a, a ≠ 174 → y.1 a = c.1 a) ∧ y.2 = c.2) (fun y => tc_mk S y) (by omega) (fun v y hv hy => by
      obtain ⟨y1, y2, y3⟩ := hy
      have hv60 : v < 60 := by omega
      have e0 : y.2.2.1 155 1 = nI M := by rw [y3]; exact r1
      have e1 : ¬ nI v ≥ nI M := nI_ge hv (by omega)
      have e163 : y.1 163 = c.1 163 := y2 163 (by decide)
      have hRy : RTree y E M := by
        unfold RTree
        rw [y3, y2 163 (by decide), y2 156 (by decide), y2 157 (by decide), y2 158 (by decide), y2 159 (by decide), y2 160 (by decide), y2 161 (by decide)]
        exact hR
      have hURy : UR y U := hUR.cg (y2 167 (by decide)) y3
      have fin : ∀ r, f_X11_markNew_b3 155 (mkS P) (nI v, tc_mk S y) = some (.inl (nI (v + 1), tc_mk S (tc_I y 174 (upd (y.1 174) v (bI r))))) → (∀ j, j < E.n → E.ord j = v → r = (!P (E.ord j) || E.anB U.mv j)) →
          ∃ y', f_X11_markNew_b3 155 (mkS P) (nI v, tc_mk S y) = some (.inl (nI (v + 1), tc_mk S y')) ∧ (∀ j, j < E.n → E.ord j < v + 1 → y'.1 174 (E.ord j) = bI (!P (E.ord j) || E.anB U.mv j)) ∧ (∀ a, a ≠ 174 → y'.1 a = c.1 a) ∧ y'.2 = c.2 := fun r he hr => by
        refine ⟨_, he, fun j hj hlt => ?_, fun a ha => ?_, y3⟩
        · rw [tc_I1, tc_us]
          by_cases q : E.ord j = v
          · rw [q, upd_s, ← q, hr j hj q]
          · rw [upd_n _ _ q]; exact y1 j hj (by omega)
        · rw [tc_I1, tc_un _ _ ha]; exact y2 a ha
      by_cases qd : ∃ j, j < E.n ∧ E.ord j = v
      · obtain ⟨j, hj, rfl⟩ := qd
        have e2 : y.1 163 (E.ord j) = 1 := by rw [e163]; exact r3 j hj
        have n10 : ¬ (1 : Int32) = 0 := by decide
        have sz := mod_sz174 hM (!P (E.ord j) || E.anB U.mv j)
        refine fin (!P (E.ord j) || E.anB U.mv j) ?_ (fun j' hj' e => by rw [E.ord_inj hw hj' hj e])
        have el := s_X11_mark44 hM hwD hu hw hRy hURy hj (mkS P) (!P (E.ord j))
        cases hp : P (E.ord j) with
        | true =>
          rw [hp] at el sz
          have b : ¬ lg_cmp ((mkS P >>> ((nI (E.ord j)).toInt64 &&& 63)) &&& 1) 0 = 0 := fun w => by
            have := (nbit0 _ (by omega)).mp w
            rw [tb_mkS, hp] at this
            simp at this; omega
          have el : tq_loop (f_X11_markNew_b44 155 (mkS P) (nI (E.ord j)) (tc_mk S y)) tq_N ((0 : Int32), nI (E.ord j)) = some (bI (!true || E.anB U.mv j)) := el
          simp (maxSteps := 3000000) (disch := omega) only [Option.bind_some, tc_bs, tq_let, tc_I1, tc_I2, tc_J1, tc_J2, tc_J3, tc_F1, tc_F2, tc_F3, tc_F4, tc_G1, tc_G2, tc_G3, tc_G4, tc_G5, tc_us, tc_un, s_one, s_holds, s_J13_bitCount, bz_bI, f_X11_markNew_b3, hM.f, e0, e1, e2, n10, b, el, sz, if_true, if_false, nI_1]
        | false =>
          rw [hp] at el sz
          have b : lg_cmp ((mkS P >>> ((nI (E.ord j)).toInt64 &&& 63)) &&& 1) 0 = 0 := (nbit0 _ (by omega)).mpr (by rw [tb_mkS, hp]; simp)
          have el : tq_loop (f_X11_markNew_b44 155 (mkS P) (nI (E.ord j)) (tc_mk S y)) tq_N ((1 : Int32), nI (E.ord j)) = some (bI (!false || E.anB U.mv j)) := el
          simp (maxSteps := 3000000) (disch := omega) only [Option.bind_some, tc_bs, tq_let, tc_I1, tc_I2, tc_J1, tc_J2, tc_J3, tc_F1, tc_F2, tc_F3, tc_F4, tc_G1, tc_G2, tc_G3, tc_G4, tc_G5, tc_us, tc_un, s_one, s_holds, s_J13_bitCount, bz_bI, f_X11_markNew_b3, hM.f, e0, e1, e2, n10, b, el, sz, if_true, if_false, nI_1]
      · have e2 : y.1 163 v = 0 := by rw [e163]; exact r4 v hv60 fun j hj e => qd ⟨j, hj, e⟩
        have n1 : ¬ nI v = (-1 : Int32) := nI_nm1 (by omega)
        have el : tq_loop (f_X11_markNew_b44 155 (mkS P) (nI v) (tc_mk S y)) tq_N ((0 : Int32), nI v) = some (bI false) := by
          unfold tq_N
          rw [tq_loop]
          have : f_X11_markNew_b44 155 (mkS P) (nI v) (tc_mk S y) ((0 : Int32), nI v) = some (.inr 0) := by
            simp (maxSteps := 3000000) (disch := omega) only [Option.bind_some, tc_bs, tq_let, tc_I1, tc_I2, tc_J1, tc_J2, tc_J3, tc_F1, tc_F2, tc_F3, tc_F4, tc_G1, tc_G2, tc_G3, tc_G4, tc_G5, tc_us, tc_un, s_one, s_holds, s_J13_bitCount, bz_bI, f_X11_markNew_b44, hM.f, n1, e2, if_true, if_false]
          rw [this]; rfl
        have sz := mod_sz174 hM false
        refine fin false ?_ (fun j hj e => absurd ⟨j, hj, e⟩ qd)
        simp (maxSteps := 3000000) (disch := omega) only [Option.bind_some, tc_bs, tq_let, tc_I1, tc_I2, tc_J1, tc_J2, tc_J3, tc_F1, tc_F2, tc_F3, tc_F4, tc_G1, tc_G2, tc_G3, tc_G4, tc_G5, tc_us, tc_un, s_one, s_holds, s_J13_bitCount, bz_bI, f_X11_markNew_b3, hM.f, e0, e1, e2, el, sz, if_true, if_false, nI_1]) (fun y hy => by
      have e0 : y.2.2.1 155 1 = nI M := by rw [hy.2.2]; exact r1
      have e1 : nI M ≥ nI M := Int32.le_refl _
      simp (maxSteps := 3000000) (disch := omega) only [Option.bind_some, tc_bs, tq_let, tc_I1, tc_I2, tc_J1, tc_J2, tc_J3, tc_F1, tc_F2, tc_F3, tc_F4, tc_G1, tc_G2, tc_G3, tc_G4, tc_G5, tc_us, tc_un, s_one, s_holds, s_J13_bitCount, bz_bI, f_X11_markNew_b3, hM.f, e0, e1, if_true]) (x := c) ⟨fun j _ h => absurd h (Nat.not_lt_zero _), fun _ _ => rfl, rfl⟩
  have y1 : tq_loop (f_X11_markNew_b3 155 (mkS P)) tq_N ((0 : Int32), tc_mk S c) = some (tc_mk S y) := y1
  refine ⟨y, ?_, fun j hj => y2 j hj (r2' j hj), y3, y4⟩
  unfold f_X11_markNew
  rw [y1, Option.bind_some]
end MKN
