/-! ===== all updates are done: the class; the call ===== -/
abbrev bq1 (a : Nat) : Prop := (41 ≤ a ∧ a ≤ 80) ∨ a = 97 ∨ a = 141
abbrev bq2 (a : Nat) : Prop := 41 ≤ a ∧ a ≤ 80
abbrev bq3 (q _k : Nat) : Prop := 41 ≤ q ∧ q ≤ 80
abbrev bq4 (q _k : Nat) : Prop := 41 ≤ q ∧ q ≤ 81
section APC
variable {S : tq_H} {c c' c1 c2 d d1 e : tc_C} {di : DI} {D E : Doc} {m M : Nat} {U U' : Ups} {P : Pat} {H : Nat → Bool} {Z : Sma} {X : Nat → Bool} {nw : Nat} {ed : Option Nat} {nv : Nat} {vt mv : Nat → Nat} {Dv : Nat → Doc} {p q r k b i j n z : Nat} {x1 y4 : Int32} {xs : Nat → Int32} {h0 : tq_H} {N N' : Nat → Int32} {Q : Nat → Bool}
theorem Bf.wr (h : Bf 41 81 c c') : Wr bq1 bq2 bq3 bq4 c c' := by
  obtain ⟨h1, h2, h3, h4, h5⟩ := h
  exact ⟨fun a ha => h1 a (by omega) (by omega), fun a ha => h2 a (by omega), fun q k hq => congrFun (h3 q (by omega)) k, fun q k hq => congrFun (h4 q (by omega) (by omega)) k, h5⟩
/-- the class has built the tree -/
theorem Cor.buildC (h : Cor S c di D m U P H Z X nw ed nv vt mv Dv) (hok : U.ok) (hr : m + U.ins U.n ≤ 60) :
    ∃ c1, f_X9_build 81 1 41 (tc_mk S c) = some (tc_mk S c1) ∧ Lay c1 41 (U.doc m D) ∧ Nod c1 41 (U.doc m D) (m + U.ins U.n) ∧ (∃ r, f_X8_isTangled 41 (tc_mk S c1) = some (bI r) ∧ (r = true ↔ U.cyc m D)) ∧ (∃ r, f_X8_hasTwins 41 (tc_mk S c1) = some (bI r) ∧ (r = true ↔ (U.doc m D).tw)) ∧
      (∀ i, i < D.n → c1.1 74 (D.ord i) = c.1 34 (D.ord i)) ∧ (∀ k, k < U.n → U.uw k = 0 → c1.1 74 (m + U.ins k) = -1) ∧ c1.2.2.2.1 81 8 = mkS (U.fr m U.n) ∧ Wr bq1 bq2 bq3 bq4 c c1 := by
  have hT := h.1.2.1.2
  have hw := h.gt.1.1
  obtain ⟨u1, u2, u3⟩ := h.gu
  obtain ⟨c1, b1, b2, b3, b4, b5, b6⟩ := s_X9_build (S := S) hT h.t1 h.upc ⟨by omega, by omega⟩ hw u3 hok hr h.gt.2.1 h.gt.2.2.1 u1
  have hwE := U.doc_wf hw u3 hok hr
  have t1 := s_tangled (S := S) hT hw u3 hok hr b3.2.2.1 b4
  have t2 := s_X8_hasTwins (S := S) hT hwE b2
  obtain ⟨-, -, v3, v4, -, v6, -⟩ := b5
  exact ⟨c1, b1, b2, b3, t1, t2, v3, v4, v6, b6.wr⟩
theorem Doc.fit_cg (h0 : D.kp Q 0 = true) (hN : ∀ t, D.kp Q t = true → N' (D.ord t) = N (D.ord t)) : D.fitN Q N' ↔ D.fitN Q N :=
  ⟨fun w j hj hq => ((Doc.nwN_cg h0 (Nat.le_of_lt hj) hN).2).mp (w j hj hq), fun w j hj hq => ((Doc.nwN_cg h0 (Nat.le_of_lt hj) hN).2).mpr (w j hj hq)⟩
/-- a node of the new document: old, or inserted -/
theorem Ups.doc_In (hw : D.wf) (hu : U.wf m D) (hok : U.ok) (hr : m + U.ins U.n ≤ 60) (hj : j < (U.doc m D).n) : U.In m D U.n ((U.doc m D).ord j) ∧ (U.doc m D).kd j = (U.new m D).1 ((U.doc m D).ord j) :=
  ⟨U.rch_In hw hu (mkF_rch (U.frs hw hu hok hr) hj), rfl⟩
/-- a kept solid is an old one -/
theorem Ups.kp_old (hw : D.wf) (hu : U.wf m D) (hok : U.ok) (hr : m + U.ins U.n ≤ 60) (hk : (U.doc m D).kp ((U.doc m D).frQ (U.fr m U.n)) j = true) : ∃ i, i < D.n ∧ (U.doc m D).ord j = D.ord i ∧ D.kd i ≠ 2 := by
  obtain ⟨k1, k2, k3⟩ := Doc.kp_iff.mp hk
  obtain ⟨a1, a2⟩ := U.doc_In hw hu hok hr k1
  rcases a1 with ⟨i, i1, i2⟩ | ⟨k, i1, i2, i3⟩
  · refine ⟨i, i1, i2, ?_⟩
    rw [a2, i2, U.new_old hw hu i1] at k2; exact k2
  · exfalso
    rw [Doc.frQ_an k1] at k3
    have hf : (U.doc m D).anB (U.fr m U.n) j = true := Doc.anB_iff.mpr ⟨j, k1, by
      rw [i3]
      exact anyB_iff.mpr ⟨k, i1, decide_eq_true ⟨.inl i2, by unfold Ups.sj; rw [if_pos i2]⟩⟩, .inl rfl⟩
    rw [hf, decide_eq_true k2] at k3; cases k3
/-- an attribute has no number -/
theorem Ups.att_old (hw : D.wf) (hu : U.wf m D) (hok : U.ok) (hr : m + U.ins U.n ≤ 60) (hj : j < (U.doc m D).n) (hk : (U.doc m D).kd j = 2) : (∃ i, i < D.n ∧ (U.doc m D).ord j = D.ord i ∧ D.kd i = 2) ∨ ∃ k, k < U.n ∧ U.uw k = 0 ∧ (U.doc m D).ord j = m + U.ins k := by
  obtain ⟨a1, a2⟩ := U.doc_In hw hu hok hr hj
  rcases a1 with ⟨i, i1, i2⟩ | ⟨k, i1, i2, i3⟩
  · exact .inl ⟨i, i1, i2, by rw [a2, i2, U.new_old hw hu i1] at hk; exact hk⟩
  · exact .inr ⟨k, i1, i2, i3⟩
/-- the class numbers the new tree -/
theorem Cor.numC (h : Cor S c di D m U P H Z X nw ed nv vt mv Dv) (hok : U.ok) (hr : m + U.ins U.n ≤ 60) (hT : tc_Tree S 41) (hL : Lay c2 41 (U.doc m D)) (n1 : ∀ i, i < D.n → c2.1 74 (D.ord i) = c.1 34 (D.ord i)) (n2 : ∀ k, k < U.n → U.uw k = 0 → c2.1 74 (m + U.ins k) = -1) (h14 : c2.2.2.1 0 14 = c.2.2.1 0 14) (hq : tc_Tq S ed) (tl : tq_H → Option tq_H) :
    ∃ r c3 c5, f_X8_numberFresh 41 (mkS (U.fr m U.n)) (tc_mk S c2) = some (bI r, tc_mk S c3) ∧ (r = true → c5 = c3) ∧ (r = false → ∃ c4, f_X8_numberAnew 41 (tc_mk S c3) = some (tc_mk S c4) ∧ c4.2.2.1 0 14 = c.2.2.1 0 14 ∧ c5 = tc_F c4 0 14 (c.2.2.1 0 14 + 1)) ∧
      (r = true ↔ (U.doc m D).fitN ((U.doc m D).frQ (U.fr m U.n)) (c.1 162)) ∧
      (r = true → ∀ f, Nb f 162 (U.doc m D) ((U.doc m D).frQ (U.fr m U.n)) (c.1 162) → ∀ j, j < (U.doc m D).n → (U.doc m D).kd j ≠ 2 → c5.1 74 ((U.doc m D).ord j) = f.1 162 ((U.doc m D).ord j)) ∧
      (r = false → ∀ f, Na f 162 (U.doc m D) (c.1 162) → ∀ j, j < (U.doc m D).n → (U.doc m D).kd j ≠ 2 → c5.1 74 ((U.doc m D).ord j) = f.1 162 ((U.doc m D).ord j)) ∧
      (∀ j, j < (U.doc m D).n → (U.doc m D).kd j = 2 → c5.1 74 ((U.doc m D).ord j) = -1) ∧
      c5.2.2.1 0 14 = (if r then c.2.2.1 0 14 else c.2.2.1 0 14 + 1) ∧ Wr (fun a => a = 74) uc2 (fun q k => q = 0 ∧ k = 14) u4 c2 c5 := by
  have hw := h.gt.1.1
  have hu := h.gu.2.2
  have hwE := U.doc_wf hw hu hok hr
  have hm60 := h.gt.2.2.1.1
  have f0 := U.fr0 hw hu
  have h0 := Doc.kp0 hwE f0
  obtain ⟨r, c3, a1, a2, a3, a4, a5, a6⟩ := s_X8_numberFresh (S := S) (N := c2.1 74) hT hwE hL (fr := U.fr m U.n) (by rw [(U.doc m D).ord_0 hwE]; exact f0) rfl
  have hN : ∀ t, (U.doc m D).kp ((U.doc m D).frQ (U.fr m U.n)) t = true → c2.1 74 ((U.doc m D).ord t) = c.1 162 ((U.doc m D).ord t) := fun t ht => by
    obtain ⟨i, i1, i2, i3⟩ := U.kp_old hw hu hok hr ht
    rw [i2, n1 i i1]
    exact h.2.2.1.1 i i1 i3
  have a2' : r = true ↔ (U.doc m D).fitN ((U.doc m D).frQ (U.fr m U.n)) (c.1 162) := a2.trans (Doc.fit_cg h0 hN)
  have k3 : Wr (fun a => a = 74) uc2 (fun q k => q = 0 ∧ k = 14) u4 c2 c3 := ⟨fun a ha => a5 a ha, fun a _ => by rw [a6], fun q k _ => by rw [a6], fun q k _ => by rw [a6], by rw [a6]⟩
  have hat : ∀ j, j < (U.doc m D).n → (U.doc m D).kd j = 2 → c3.1 74 ((U.doc m D).ord j) = -1 := fun j hj hk => by
    have e := a4 ((U.doc m D).ord j) (fun j' hj' hk' z => by
      have := (U.doc m D).ord_inj hwE hj' hj z
      subst this; exact hk' hk)
    rw [show c3.1 74 ((U.doc m D).ord j) = _ from e]
    rcases U.att_old hw hu hok hr hj hk with ⟨i, i1, i2, i3⟩ | ⟨k, i1, i2, i3⟩
    · rw [i2, n1 i i1]; exact h.2.2.1.2.1 i i1 i3
    · rw [i3]; exact n2 k i1 i2
  cases hr2 : r with
  | true =>
    rw [hr2] at a1 a2'
    refine ⟨true, c3, c3, a1, fun _ => rfl, (fun z => by cases z), a2', fun _ f hf j hj hk => ?_, (fun z => by cases z), hat, by rw [a6]; exact h14, k3⟩
    have hb := a3 hr2
    cases hq : (U.doc m D).frQ (U.fr m U.n) j with
    | true =>
      rw [show c3.1 74 ((U.doc m D).ord j) = _ from hb.1 j hq, hf.1 j hq]
      exact (Doc.nwN_cg h0 (Nat.le_of_lt hj) hN).1
    | false =>
      have hno : ∀ j', (U.doc m D).frQ (U.fr m U.n) j' = true → (U.doc m D).ord j' ≠ (U.doc m D).ord j := fun j' hj' z => by
        have hj2 : j' < (U.doc m D).n := by
          unfold Doc.frQ at hj'
          rw [Bool.and_eq_true] at hj'
          exact (of_decide_eq_true hj'.2).1
        have := (U.doc m D).ord_inj hwE hj2 hj z
        subst this; rw [hq] at hj'; cases hj'
      rw [show c3.1 74 ((U.doc m D).ord j) = _ from hb.2 _ hno, hf.2 _ hno]
      exact hN j (Doc.kp_iff.mpr ⟨hj, hk, hq⟩)
  | false =>
    rw [hr2] at a1 a2'
    have hL3 : Lay c3 41 (U.doc m D) := hL.pt (fun a _ _ => a5 a (by omega)) (fun a _ _ => by rw [a6]) (by rw [a6]) (by rw [a6]) (by rw [a6])
    have e4 : f_X8_numberAnew 41 (tc_mk S c3) = some (tc_mk S (tc_I c3 74 ((U.doc m D).numF (c3.1 74) (U.doc m D).n))) := s_X8_numberAnew (S := S) hT hwE hL3
    refine ⟨false, c3, tc_F (tc_I c3 74 ((U.doc m D).numF (c3.1 74) (U.doc m D).n)) 0 14 (c.2.2.1 0 14 + 1), a1, (fun z => by cases z), fun _ => ⟨_, e4, by show c3.2.2.1 0 14 = _; rw [a6]; exact h14, rfl⟩, a2', (fun z => by cases z), fun _ f hf j hj hk => ?_, fun j hj hk => ?_, by rw [tc_F3, tc_us, tc_us]; rfl, (k3.trans (Wr.I _ rfl)).trans (Wr.F _ ⟨rfl, rfl⟩)⟩
    · rw [tc_F1, tc_I1, tc_us, (U.doc m D).numF_at hwE _ hj _ (Nat.le_refl _), if_pos ⟨hj, hk⟩, hf.1 j hj hk]
    · rw [tc_F1, tc_I1, tc_us, (U.doc m D).numF_at hwE _ hj _ (Nat.le_refl _), if_neg (fun z => z.2 hk)]
      exact hat j hj hk
/-- in the lists, the old solids that stay stand in their old order -/
theorem Ups.F_pw (hw : D.wf) (hu : U.wf m D) (hok : U.ok) (v : Nat) : (U.F m D v).Pairwise (fun a b => ∀ s t, s < D.n → t < D.n → D.kd s ≠ 2 → D.kd t ≠ 2 → a = D.ord s → b = D.ord t → U.tk U.n a = false → U.tk U.n b = false → s < t) := by
  by_cases q : ∃ i, i < D.n ∧ D.ord i = v
  · obtain ⟨i, hi, rfl⟩ := q
    rw [U.F_at hw hi]
    split
    · have hatt : ∀ a, a ∈ cutL (U.aL m D i) 8 → ∀ s, s < D.n → D.kd s ≠ 2 → a ≠ D.ord s := fun a ha s hs hk e => by
        obtain ⟨x, -, ha⟩ := cutL_mem.mp ha
        have := (U.aL_kd hw hu ha).1
        rw [e, U.new_old hw hu hs] at this
        exact hk this
      have hold : ∀ p a, a ∈ U.kL m D i p → ∀ s, s < D.n → a = D.ord s → U.tk U.n a = false → D.ax 1 i s = true ∧ fb_ct (D.ax 1 i) s = p := fun p a ha s hs e ht => by
        rcases (U.kL_mem hw).mp ha with ⟨k, k1, k2, k3⟩ | ⟨j, j1, j2, j3, j4⟩
        · exfalso
          have k2 := of_decide_eq_true k2
          have k4 : U.uw k = 0 ∨ U.uw k = 4 := k2.1.elim Or.inr (fun z => Or.inl z.1)
          have ht' : U.tk U.n (D.ord s) = false := by rw [← e]; exact ht
          exact U.sj_old hu k1 k4 hs ht' (by rw [← k3]; exact e)
        · have hj := D.ax_lt 1 i j j1
          have := D.ord_inj hw hj hs (by rw [← j3]; exact e)
          subst this
          exact ⟨j1, j2⟩
      have hnd := U.fL_nd hw hu hok hi
      have main : (U.fL m D i).Pairwise (fun a b => a ≠ b → ∀ s t, s < D.n → t < D.n → D.kd s ≠ 2 → D.kd t ≠ 2 → a = D.ord s → b = D.ord t → U.tk U.n a = false → U.tk U.n b = false → s < t) := by
        unfold Ups.fL
        rw [List.pairwise_append]
        refine ⟨List.pairwise_iff_getElem.mpr fun x y h1 h2 _ _ s t hs _ ks _ e _ _ _ => absurd e (hatt _ (List.getElem_mem h1) s hs ks), cutL_pw _ (fun p _ => List.pairwise_iff_getElem.mpr fun x y h1 h2 _ hne s t hs ht _ _ e1 e2 t1 t2 => ?_) (fun p p' hp _ a ha b hb _ s t hs ht _ _ e1 e2 t1 t2 => ?_), fun a ha b _ _ s t hs _ ks _ e _ _ _ => absurd e (hatt a ha s hs ks)⟩
        · exfalso
          obtain ⟨a1, a2⟩ := hold p _ (List.getElem_mem h1) s hs e1 t1
          obtain ⟨b1, b2⟩ := hold p _ (List.getElem_mem h2) t ht e2 t2
          have hst : s = t := by
            rcases Nat.lt_trichotomy s t with z | z | z
            · have h3 := fb_ct_mono (D.ax 1 i) (show s + 1 ≤ t from z)
              have h4 : fb_ct (D.ax 1 i) (s + 1) = fb_ct (D.ax 1 i) s + 1 := by rw [fb_ct_succ, a1]; rfl
              omega
            · exact z
            · have h3 := fb_ct_mono (D.ax 1 i) (show t + 1 ≤ s from z)
              have h4 : fb_ct (D.ax 1 i) (t + 1) = fb_ct (D.ax 1 i) t + 1 := by rw [fb_ct_succ, b1]; rfl
              omega
          exact hne (by rw [e1, e2, hst])
        · obtain ⟨-, a2⟩ := hold p a ha s hs e1 t1
          obtain ⟨-, b2⟩ := hold p' b hb t ht e2 t2
          rcases Nat.lt_or_ge s t with z | z
          · exact z
          · have := fb_ct_mono (D.ax 1 i) z
            omega
      exact (List.Pairwise.and hnd main).imp fun h => h.2 h.1
    · exact List.Pairwise.nil
  · have : U.F m D v = [] := by
      cases e : U.F m D v with
      | nil => rfl
      | cons a l =>
        exfalso
        obtain ⟨i, i1, i2, -⟩ := (U.F_mem hw).mp (show a ∈ U.F m D v by rw [e]; exact List.mem_cons_self)
        exact q ⟨i, i1, i2⟩
    rw [this]
    exact List.Pairwise.nil
/-- a kept spot: its parent is kept, and was its parent -/
theorem Ups.kp_par (hw : D.wf) (hu : U.wf m D) (hok : U.ok) (hr : m + U.ins U.n ≤ 60) (h0 : 0 < j) (hk : (U.doc m D).kp ((U.doc m D).frQ (U.fr m U.n)) j = true) (hi : i < D.n) (e : (U.doc m D).ord j = D.ord i) :
    (U.doc m D).kp ((U.doc m D).frQ (U.fr m U.n)) ((U.doc m D).up j) = true ∧ 0 < i ∧ (U.doc m D).ord ((U.doc m D).up j) = D.ord (D.up i) ∧ U.tk U.n (D.ord i) = false ∧ (U.doc m D).up j < j := by
  have hwE := U.doc_wf hw hu hok hr
  obtain ⟨k1, k2, k3⟩ := Doc.kp_iff.mp hk
  rw [Doc.frQ_an k1, decide_eq_true k2, Bool.and_true, Doc.anB_up hwE h0 k1, Bool.or_eq_false_iff] at k3
  obtain ⟨f1, f2⟩ := k3
  have hup := (U.doc m D).up_lt hwE h0 k1
  have hkp : (U.doc m D).kp ((U.doc m D).frQ (U.fr m U.n)) ((U.doc m D).up j) = true := Doc.kp_iff.mpr ⟨by omega, by rw [(U.doc m D).kd_up hwE h0 k1]; decide, by rw [Doc.frQ_an (by omega), f2]; rfl⟩
  obtain ⟨-, X, Y, hF, -⟩ := mkF_kid' (R := U.new m D) (U.frs hw hu hok hr) h0 k1
  obtain ⟨iu, u1, u2, -, u3⟩ := (U.F_mem hw).mp (show (U.doc m D).ord j ∈ U.F m D ((U.doc m D).ord ((U.doc m D).up j)) by
    rw [show U.F m D ((U.doc m D).ord ((U.doc m D).up j)) = X ++ (U.doc m D).ord j :: Y from hF]
    exact List.mem_append_right _ List.mem_cons_self)
  rcases U.fL_og hw u3 with ⟨s, s0, s1, s2, s3, s4⟩ | ⟨k, k1', k2', -, k4⟩
  · have : s = i := D.ord_inj hw s1 hi (by rw [← s3]; exact e)
    subst this
    rw [e] at s4
    exact ⟨hkp, s0, by rw [← u2, s2], s4, hup⟩
  · exfalso
    have : U.fr m U.n ((U.doc m D).ord j) = true := anyB_iff.mpr ⟨k, k1', decide_eq_true ⟨k2', k4.symm⟩⟩
    rw [this] at f1
    cases f1
/-- kept spots stand in their old order -/
theorem Ups.kp_ord (hw : D.wf) (hu : U.wf m D) (hok : U.ok) (hr : m + U.ins U.n ≤ 60) : ∀ s j j' i i', j + j' ≤ s → j < j' → (U.doc m D).kp ((U.doc m D).frQ (U.fr m U.n)) j = true → (U.doc m D).kp ((U.doc m D).frQ (U.fr m U.n)) j' = true → i < D.n → i' < D.n → (U.doc m D).ord j = D.ord i → (U.doc m D).ord j' = D.ord i' → i < i' ∧ ((U.doc m D).en j ≤ j' → D.en i ≤ i') := by
  have hwE := U.doc_wf hw hu hok hr
  intro s
  induction s with
  | zero => intro j j' i i' h1 h2; omega
  | succ s ih =>
    intro j j' i i' hs hjj hk hk' hi hi' e e'
    have hj'n := (Doc.kp_iff.mp hk').1
    obtain ⟨p1, p2, p3, p4, p5⟩ := U.kp_par hw hu hok hr (by omega) hk' hi' e'
    have q2 := D.up_lt hw p2 hi'
    rcases Nat.lt_or_ge j' ((U.doc m D).en j) with a | a
    · refine ⟨?_, fun z => absurd a (by omega)⟩
      obtain ⟨b1, b2⟩ := ((U.doc m D).en_up hwE hjj hj'n).mp a
      rcases Nat.lt_or_ge j ((U.doc m D).up j') with c | c
      · have := (ih j ((U.doc m D).up j') i (D.up i') (by omega) c hk p1 hi (by omega) e p3).1
        omega
      · have hju : (U.doc m D).up j' = j := by omega
        rw [hju, e] at p3
        have := D.ord_inj hw hi (by omega) p3
        omega
    · have key : D.en i ≤ i' := by
        have hj0 : 0 < j := by
          rcases Nat.eq_zero_or_pos j with z | z
          · rw [z, (U.doc m D).en_0 hwE] at a
            omega
          · exact z
        obtain ⟨r1, r2, r3, r4, r5⟩ := U.kp_par hw hu hok hr hj0 hk hi e
        have q1 := D.up_lt hw r2 hi
        have hjn := (Doc.kp_iff.mp hk).1
        rcases Nat.lt_or_ge j' ((U.doc m D).en ((U.doc m D).up j)) with b | b
        · obtain ⟨b1, b2⟩ := ((U.doc m D).en_up hwE (show (U.doc m D).up j < j' by omega) hj'n).mp b
          rcases Nat.lt_or_ge ((U.doc m D).up j') ((U.doc m D).en j) with c | c
          · have c1 : (U.doc m D).up j' < j := by
              rcases Nat.lt_or_ge ((U.doc m D).up j') j with z | z
              · exact z
              · have := ((U.doc m D).en_up hwE hjj hj'n).mpr ⟨z, c⟩
                omega
            have c2 : (U.doc m D).up j' = (U.doc m D).up j := by
              rcases Nat.lt_or_ge ((U.doc m D).up j) ((U.doc m D).up j') with z | z
              · have h1 := (U.doc m D).up_sp hwE (show 0 < j' by omega) hj'n
                have := (((U.doc m D).en_up hwE c1 hjn).mp (by omega)).1
                omega
              · omega
            -- siblings
            have hii : D.up i = D.up i' := D.ord_inj hw (by omega) (by omega) (by rw [← r3, ← p3, c2])
            obtain ⟨-, X, Y, hF, hx⟩ := mkF_kid' (R := U.new m D) (U.frs hw hu hok hr) hj0 hjn
            obtain ⟨-, X', Y', hF', hx'⟩ := mkF_kid' (R := U.new m D) (U.frs hw hu hok hr) (show 0 < j' by omega) hj'n
            have hF : U.F m D ((U.doc m D).ord ((U.doc m D).up j)) = X ++ (U.doc m D).ord j :: Y := hF
            have hF' : U.F m D ((U.doc m D).ord ((U.doc m D).up j')) = X' ++ (U.doc m D).ord j' :: Y' := hF'
            have hx : j = (U.doc m D).up j + 1 + szF (U.F m D) X := hx
            have hx' : j' = (U.doc m D).up j' + 1 + szF (U.F m D) X' := hx'
            rw [c2] at hF' hx'
            have hlen : X.length < X'.length := by
              rcases Nat.lt_or_ge X.length X'.length with z | z
              · exact z
              · exfalso
                have h1 : X' = (U.F m D ((U.doc m D).ord ((U.doc m D).up j))).take X'.length := by rw [hF', List.take_left]
                have h2 : X = (U.F m D ((U.doc m D).ord ((U.doc m D).up j))).take X.length := by rw [hF, List.take_left]
                have h3 : X' = X.take X'.length := by rw [h2, List.take_take, Nat.min_eq_left z]; exact h1
                have h4 : X = X' ++ X.drop X'.length := by
                  have := (List.take_append_drop X'.length X).symm
                  rwa [← h3] at this
                have h5 : szF (U.F m D) X = szF (U.F m D) X' + szF (U.F m D) (X.drop X'.length) := by
                  have := szF_app (F := U.F m D) X' (X.drop X'.length)
                  rwa [← h4] at this
                omega
            have hpw := List.pairwise_iff_getElem.mp (U.F_pw hw hu hok ((U.doc m D).ord ((U.doc m D).up j)))
            have l1 : X.length < (U.F m D ((U.doc m D).ord ((U.doc m D).up j))).length := by rw [hF, List.length_append, List.length_cons]; omega
            have l2 : X'.length < (U.F m D ((U.doc m D).ord ((U.doc m D).up j))).length := by rw [hF', List.length_append, List.length_cons]; omega
            have g1 : (U.F m D ((U.doc m D).ord ((U.doc m D).up j)))[X.length] = D.ord i := by
              have : (U.F m D ((U.doc m D).ord ((U.doc m D).up j)))[X.length]? = some ((U.doc m D).ord j) := by rw [hF, List.getElem?_append_right (Nat.le_refl _), Nat.sub_self]; rfl
              rw [List.getElem?_eq_getElem l1] at this
              rw [Option.some.inj this, e]
            have g2 : (U.F m D ((U.doc m D).ord ((U.doc m D).up j)))[X'.length] = D.ord i' := by
              have : (U.F m D ((U.doc m D).ord ((U.doc m D).up j)))[X'.length]? = some ((U.doc m D).ord j') := by rw [hF', List.getElem?_append_right (Nat.le_refl _), Nat.sub_self]; rfl
              rw [List.getElem?_eq_getElem l2] at this
              rw [Option.some.inj this, e']
            obtain ⟨v1, v2, v3⟩ := Doc.kp_iff.mp hk
            obtain ⟨w1, w2, w3⟩ := Doc.kp_iff.mp hk'
            have ks : D.kd i ≠ 2 := by
              rw [(U.doc_In hw hu hok hr v1).2, e, U.new_old hw hu hi] at v2
              exact v2
            have ks' : D.kd i' ≠ 2 := by
              rw [(U.doc_In hw hu hok hr w1).2, e', U.new_old hw hu hi'] at w2
              exact w2
            have lt := hpw X.length X'.length l1 l2 hlen i i' hi hi' ks ks' g1 g2 (by rw [g1]; exact r4) (by rw [g2]; exact p4)
            rcases Nat.lt_or_ge i' (D.en i) with z | z
            · have := ((D.en_up hw lt hi').mp z).1
              omega
            · exact z
          · have := (ih j ((U.doc m D).up j') i (D.up i') (by omega) (by have := (U.doc m D).en_gt hwE hjn; omega) hk p1 hi (by omega) e p3).2 c
            omega
        · have h1 := (ih ((U.doc m D).up j) j' (D.up i) i' (by omega) (by omega) r1 hk' (by omega) hi' r3 e').2 b
          have h2 := D.en_in hw q1 (D.up_sp hw r2 hi) (by omega)
          omega
      exact ⟨by have := D.en_gt hw hi; omega, fun _ => key⟩
/-- the numbers behind the updates rise -/
theorem Rise.new (hw : D.wf) (hu : U.wf m D) (hok : U.ok) (hr : m + U.ins U.n ≤ 60) {kk : Nat} (hkk : kk ≤ 1000) {N M : Nat → Int32} (h : Rise N D kk) (hfit : (U.doc m D).fitN ((U.doc m D).frQ (U.fr m U.n)) N)
    (hM : ∀ j, j < (U.doc m D).n → (U.doc m D).kd j ≠ 2 → M ((U.doc m D).ord j) = if (U.doc m D).frQ (U.fr m U.n) j = true then (U.doc m D).nwN ((U.doc m D).frQ (U.fr m U.n)) N j else N ((U.doc m D).ord j)) : Rise M (U.doc m D) (kk + 1) := by
  have hwE := U.doc_wf hw hu hok hr
  have hn60 := (U.doc m D).n_le hwE
  have h0 := Doc.kp0 hwE (U.fr0 hw hu)
  have hQs : ∀ j, (U.doc m D).frQ (U.fr m U.n) j = true → j < (U.doc m D).n ∧ (U.doc m D).kd j ≠ 2 := fun j h => by
    unfold Doc.frQ at h
    rw [Bool.and_eq_true] at h
    exact of_decide_eq_true h.2
  have kold := fun (j : Nat) (hk : (U.doc m D).kp ((U.doc m D).frQ (U.fr m U.n)) j = true) => U.kp_old hw hu hok hr hk
  have kord := U.kp_ord hw hu hok hr
  have e0 : (U.doc m D).ord 0 = 0 := (U.doc m D).ord_0 hwE
  generalize hE : U.doc m D = E at *
  generalize hQ : E.frQ (U.fr m U.n) = Q at *
  obtain ⟨f, f1, f2, f3⟩ := h
  obtain ⟨φ, hφ⟩ : ∃ φ : Nat → Nat, φ = fun j => D.ps (nI (E.ord j)) D.n - 1 := ⟨_, rfl⟩
  have kphi : ∀ j, E.kp Q j = true → φ j < D.n ∧ E.ord j = D.ord (φ j) ∧ D.kd (φ j) ≠ 2 := fun j hk => by
    obtain ⟨i, i1, i2, i3⟩ := kold j hk
    have : φ j = i := by
      rw [hφ]
      show D.ps (nI (E.ord j)) D.n - 1 = i
      rw [i2, D.ps_ord hw i1]
      rfl
    rw [this]
    exact ⟨i1, i2, i3⟩
  have gN : ∀ j, E.kp Q j = true → N (E.ord j) = nI (f (φ j)) ∧ f (φ j) ≤ 1000 + 1000 * kk := fun j hk => by
    obtain ⟨i1, i2, i3⟩ := kphi j hk
    rw [i2]
    exact f1 _ i1 i3
  have gm : ∀ j j', E.kp Q j = true → E.kp Q j' = true → j < j' → f (φ j) < f (φ j') := fun j j' hk hk' hj => by
    obtain ⟨i1, i2, i3⟩ := kphi j hk
    obtain ⟨k1, k2, k3⟩ := kphi j' hk'
    exact f2 _ _ (kord _ j j' (φ j) (φ j') (Nat.le_refl _) hj hk hk' i1 k1 i2 k2).1 k1 i3 k3
  have gmle : ∀ j j', E.kp Q j = true → E.kp Q j' = true → j ≤ j' → f (φ j) ≤ f (φ j') := fun j j' hk hk' hj => by
    rcases Nat.lt_or_ge j j' with z | z
    · exact Nat.le_of_lt (gm j j' hk hk' z)
    · rw [show j = j' by omega]
      exact Nat.le_refl _
  have hk0 := E.n_pos hwE
  -- a new spot between its kept neighbours
  obtain ⟨g, hg⟩ : ∃ g : Nat → Nat, g = fun j => if Q j = true then (if hiK (E.kp Q) E.n j = E.n then f (φ (loK (E.kp Q) j)) + 16 * (fb_ct Q (j + 1) - fb_ct Q (loK (E.kp Q) j)) else f (φ (loK (E.kp Q) j)) + ((fb_ct Q (j + 1) - fb_ct Q (loK (E.kp Q) j)) * (f (φ (hiK (E.kp Q) E.n j)) - f (φ (loK (E.kp Q) j)))) / (fb_ct Q (hiK (E.kp Q) E.n j) - fb_ct Q (loK (E.kp Q) j) + 1)) else f (φ j) := ⟨_, rfl⟩
  have gk : ∀ j, Q j = false → g j = f (φ j) := fun j hq => by rw [hg]; show (if Q j = true then _ else _) = _; rw [if_neg (by rw [hq]; decide)]
  have fact : ∀ j, Q j = true → ∃ lo c, lo = loK (E.kp Q) j ∧ c = fb_ct Q (j + 1) - fb_ct Q lo ∧ E.kp Q lo = true ∧ lo < j ∧ (∀ k, lo < k → k < j → E.kp Q k = false) ∧ 1 ≤ c ∧ c ≤ 60 ∧ fb_ct Q (j + 1) = fb_ct Q lo + c ∧
      ((hiK (E.kp Q) E.n j = E.n ∧ g j = f (φ lo) + 16 * c ∧ (∀ k, j ≤ k → k < E.n → E.kp Q k = false)) ∨ ∃ hi t, hi = hiK (E.kp Q) E.n j ∧ hi < E.n ∧ j < hi ∧ E.kp Q hi = true ∧ (∀ k, j ≤ k → k < hi → E.kp Q k = false) ∧ fb_ct Q hi = fb_ct Q lo + t ∧ c ≤ t ∧ t ≤ 60 ∧ t + 1 ≤ f (φ hi) - f (φ lo) ∧ f (φ lo) < f (φ hi) ∧ g j = f (φ lo) + c * (f (φ hi) - f (φ lo)) / (t + 1)) := by
    intro j hq
    obtain ⟨hjn, hks⟩ := hQs j hq
    have hj0 : 0 < j := by
      rcases Nat.eq_zero_or_pos j with z | z
      · rw [z] at hq
        have := (Doc.kp_iff.mp h0).2.2
        rw [hq] at this
        cases this
      · exact z
    obtain ⟨a1, a2, a3⟩ := loK_at h0 hj0
    have hkj : E.kp Q j = false := by
      cases z : E.kp Q j with
      | false => rfl
      | true => rw [(Doc.kp_iff.mp z).2.2] at hq; cases hq
    have hc1 : fb_ct Q (j + 1) = fb_ct Q j + 1 := by rw [fb_ct_succ, hq]; rfl
    have hc2 := fb_ct_mono Q (Nat.le_of_lt a2)
    have hc3 := fb_ct_le Q (j + 1)
    obtain ⟨b1, b2, b3, b4⟩ := hiK_at (K := E.kp Q) (Nat.le_of_lt hjn)
    refine ⟨_, _, rfl, rfl, a1, a2, a3, by omega, by omega, by omega, ?_⟩
    rcases Nat.lt_or_ge (hiK (E.kp Q) E.n j) E.n with z | z
    · right
      have hkh := b4 z
      have hjh : j < hiK (E.kp Q) E.n j := by
        rcases Nat.lt_or_ge j (hiK (E.kp Q) E.n j) with y | y
        · exact y
        · rw [show hiK (E.kp Q) E.n j = j by omega, hkj] at hkh
          cases hkh
      have hc4 := fb_ct_mono Q (show j + 1 ≤ hiK (E.kp Q) E.n j from hjh)
      have hc5 := fb_ct_le Q (hiK (E.kp Q) E.n j)
      have hlt := gm _ _ a1 hkh (by omega)
      obtain ⟨n1, n2⟩ := gN _ a1
      obtain ⟨n3, n4⟩ := gN _ hkh
      have hf : f (φ (hiK (E.kp Q) E.n j)) - f (φ (loK (E.kp Q) j)) > fb_ct Q (hiK (E.kp Q) E.n j) - fb_ct Q (loK (E.kp Q) j) := by
        rcases hfit j hjn hq with y | y
        · omega
        · rw [n1, n3, pk_sub (Nat.le_of_lt hlt)] at y
          exact (nI_ltI (by omega) (by omega)).mp y
      refine ⟨_, fb_ct Q (hiK (E.kp Q) E.n j) - fb_ct Q (loK (E.kp Q) j), rfl, z, hjh, hkh, b3, by omega, by omega, by omega, by omega, hlt, ?_⟩
      rw [hg]
      show (if Q j = true then _ else _) = _
      rw [if_pos hq, if_neg (by omega)]
    · left
      refine ⟨by omega, ?_, fun k k1 k2 => b3 k k1 (by omega)⟩
      rw [hg]
      show (if Q j = true then _ else _) = _
      rw [if_pos hq, if_pos (by omega)]
  -- its value
  have val : ∀ j, j < E.n → E.kd j ≠ 2 → M (E.ord j) = nI (g j) ∧ g j ≤ 1000 + 1000 * (kk + 1) := by
    intro j hjn hks
    rw [hM j hjn hks]
    cases hq : Q j with
    | false =>
      have hkp : E.kp Q j = true := Doc.kp_iff.mpr ⟨hjn, hks, hq⟩
      obtain ⟨n1, n2⟩ := gN j hkp
      rw [if_neg (by decide), gk j hq]
      exact ⟨n1, by omega⟩
    | true =>
      rw [if_pos rfl]
      obtain ⟨lo, c, e1, e2, e3, e4, e5, e6, e7, e8, e9⟩ := fact j hq
      obtain ⟨n1, n2⟩ := gN lo e3
      unfold Doc.nwN
      rw [← e1, ← e2]
      rcases e9 with ⟨z1, z2, -⟩ | ⟨hi, t, z1, z2, z3, z4, z5, z6, z7, z8, z9, z10, z11⟩
      · rw [if_pos z1, n1, z2, show (16 : Int32) = nI 16 from rfl, nI_mul, nI_add]
        exact ⟨rfl, by omega⟩
      · obtain ⟨n3, n4⟩ := gN hi z4
        rw [if_neg (by omega), ← z1, n1, n3, pk_sub (Nat.le_of_lt z10), show fb_ct Q hi - fb_ct Q lo = t by omega, nI_mul, show (1 : Int32) = nI 1 from rfl, nI_add]
        have hb : c * (f (φ hi) - f (φ lo)) ≤ 60 * (1000 + 1000 * kk) := Nat.mul_le_mul e7 (by omega)
        rw [pk_div (by omega) (by omega) (by omega), nI_add, z11]
        refine ⟨rfl, ?_⟩
        have h5 : c * (f (φ hi) - f (φ lo)) / (t + 1) ≤ f (φ hi) - f (φ lo) := by
          refine Nat.div_le_of_le_mul ?_
          exact Nat.mul_le_mul_right _ (by omega)
        omega
  -- below the next kept one, above the last
  have low : ∀ j, Q j = true → f (φ (loK (E.kp Q) j)) < g j := by
    intro j hq
    obtain ⟨lo, c, e1, e2, e3, e4, e5, e6, e7, e8, e9⟩ := fact j hq
    rw [← e1]
    rcases e9 with ⟨z1, z2, -⟩ | ⟨hi, t, z1, z2, z3, z4, z5, z6, z7, z8, z9, z10, z11⟩
    · omega
    · have : 1 ≤ c * (f (φ hi) - f (φ lo)) / (t + 1) := by
        rw [Nat.le_div_iff_mul_le (by omega)]
        calc 1 * (t + 1) ≤ 1 * (f (φ hi) - f (φ lo)) := by omega
          _ ≤ c * (f (φ hi) - f (φ lo)) := Nat.mul_le_mul_right _ e6
      omega
  have high : ∀ j, Q j = true → hiK (E.kp Q) E.n j < E.n → g j < f (φ (hiK (E.kp Q) E.n j)) := by
    intro j hq hlt
    obtain ⟨lo, c, e1, e2, e3, e4, e5, e6, e7, e8, e9⟩ := fact j hq
    rcases e9 with ⟨z1, z2, -⟩ | ⟨hi, t, z1, z2, z3, z4, z5, z6, z7, z8, z9, z10, z11⟩
    · omega
    · rw [← z1]
      have : c * (f (φ hi) - f (φ lo)) / (t + 1) < f (φ hi) - f (φ lo) := by
        rw [Nat.div_lt_iff_lt_mul (by omega)]
        calc c * (f (φ hi) - f (φ lo)) ≤ t * (f (φ hi) - f (φ lo)) := Nat.mul_le_mul_right _ z7
          _ < (f (φ hi) - f (φ lo)) * (t + 1) := by rw [Nat.mul_comm t, Nat.mul_succ]; omega
      omega
  refine ⟨g, val, fun i j hij hjn ki kj => ?_, ?_⟩
  · cases hqi : Q i with
    | false =>
      have hki : E.kp Q i = true := Doc.kp_iff.mpr ⟨by omega, ki, hqi⟩
      rw [gk i hqi]
      cases hqj : Q j with
      | false =>
        rw [gk j hqj]
        exact gm i j hki (Doc.kp_iff.mpr ⟨hjn, kj, hqj⟩) hij
      | true =>
        obtain ⟨lo, c, e1, e2, e3, e4, e5, -⟩ := fact j hqj
        have hl := low j hqj
        rw [← e1] at hl
        have : i ≤ lo := by
          rcases Nat.lt_or_ge lo i with z | z
          · rw [e5 i z hij] at hki
            cases hki
          · exact z
        have := gmle i lo hki e3 this
        omega
    | true =>
      obtain ⟨lo, c, e1, e2, e3, e4, e5, e6, e7, e8, e9⟩ := fact i hqi
      cases hqj : Q j with
      | false =>
        have hkj : E.kp Q j = true := Doc.kp_iff.mpr ⟨hjn, kj, hqj⟩
        rw [gk j hqj]
        rcases e9 with ⟨z1, z2, z3⟩ | ⟨hi, t, z1, z2, z3, z4, z5, -⟩
        · rw [z3 j (by omega) hjn] at hkj
          cases hkj
        · have h1 := high i hqi (by omega)
          rw [← z1] at h1
          have : hi ≤ j := by
            rcases Nat.lt_or_ge j hi with z | z
            · rw [z5 j (by omega) z] at hkj
              cases hkj
            · exact z
          have := gmle hi j z4 hkj this
          omega
      | true =>
        obtain ⟨lo', c', d1, d2, d3, d4, d5, d6, d7, d8, d9⟩ := fact j hqj
        rcases Nat.lt_or_ge i lo' with z | z
        · -- a kept one between
          rcases e9 with ⟨z1, z2, z3⟩ | ⟨hi, t, z1, z2, z3, z4, z5, -⟩
          · rw [z3 lo' (by omega) (by omega)] at d3
            cases d3
          · have h1 := high i hqi (by omega)
            rw [← z1] at h1
            have : hi ≤ lo' := by
              rcases Nat.lt_or_ge lo' hi with y | y
              · rw [z5 lo' (by omega) y] at d3
                cases d3
              · exact y
            have h2 := gmle hi lo' z4 d3 this
            have h3 := low j hqj
            rw [← d1] at h3
            omega
        · -- the same kept neighbours
          have hne : lo' ≠ i := fun y => by
            rw [y] at d3
            rw [(Doc.kp_iff.mp d3).2.2] at hqi
            cases hqi
          have hll : lo' = lo := by
            rcases Nat.lt_trichotomy lo lo' with y | y | y
            · rw [e5 lo' y (by omega)] at d3
              cases d3
            · exact y.symm
            · rw [d5 lo y (by omega)] at e3
              cases e3
          subst hll
          have hcc : c < c' := by
            have h1 := fb_ct_mono Q (show i + 1 ≤ j by omega)
            have h2 : fb_ct Q (j + 1) = fb_ct Q j + 1 := by rw [fb_ct_succ, hqj]; rfl
            omega
          rcases e9 with ⟨z1, z2, z3⟩ | ⟨hi, t, z1, z2, z3, z4, z5, z6, z7, z8, z9, z10, z11⟩ <;> rcases d9 with ⟨y1, y2, y3⟩ | ⟨hi', t', y1, y2, y3, y4, y5, y6, y7, y8, y9, y10, y11⟩
          · omega
          · rw [z3 hi' (by omega) y2] at y4
            cases y4
          · rcases Nat.lt_or_ge hi j with x | x
            · rw [d5 hi (by omega) x] at z4
              cases z4
            · rw [y3 hi x z2] at z4
              cases z4
          · have hh : hi = hi' := by
              rcases Nat.lt_trichotomy hi hi' with x | x | x
              · rcases Nat.lt_or_ge hi j with w | w
                · rw [d5 hi (by omega) w] at z4
                  cases z4
                · rw [y5 hi w x] at z4
                  cases z4
              · exact x
              · rw [z5 hi' (by omega) x] at y4
                cases y4
            subst hh
            have ht : t = t' := by omega
            subst ht
            rw [z11, y11]
            have : c * (f (φ hi) - f (φ lo')) / (t + 1) < c' * (f (φ hi) - f (φ lo')) / (t + 1) := by
              have h1 : c * (f (φ hi) - f (φ lo')) + (t + 1) ≤ c' * (f (φ hi) - f (φ lo')) := by
                have h2 : (c + 1) * (f (φ hi) - f (φ lo')) ≤ c' * (f (φ hi) - f (φ lo')) := Nat.mul_le_mul_right _ hcc
                rw [Nat.add_mul, Nat.one_mul] at h2
                omega
              have h3 : (c * (f (φ hi) - f (φ lo')) + (t + 1)) / (t + 1) ≤ c' * (f (φ hi) - f (φ lo')) / (t + 1) := Nat.div_le_div_right h1
              rw [Nat.add_div_right _ (by omega)] at h3
              omega
            omega
  · have hq0 := (Doc.kp_iff.mp h0).2.2
    rw [gk 0 hq0]
    obtain ⟨p1, p2, p3⟩ := kphi 0 h0
    have : φ 0 = 0 := D.ord_inj hw p1 (D.n_pos hw) (by rw [← p2, e0, D.ord_0 hw])
    rw [this]
    exact f3
theorem InvE.up {a : Doc → Doc → Int32} {k k' u : Nat} (h : InvE (a, k, u) h0) (hk : k ≤ k') : InvE (a, k', u) h0 := by
  obtain ⟨S, c, D, m, U, P, H, Z, X, nw, ed, nv, vt, mv, Dv, e, ⟨g0, g1, g2, g3, g4, g5, g6, g7, g8, g9, g10, ⟨g11, g12⟩, g13⟩, hF⟩ := h
  exact ⟨S, c, D, m, U, P, H, Z, X, nw, ed, nv, vt, mv, Dv, e, ⟨g0, g1, g2, g3, g4, g5, g6, g7, g8, g9, g10, ⟨g11, g12.up hk⟩, g13⟩, hF⟩
theorem Ups.mty (hn : U.n = 0) (hm : M ≤ 60) (ho : ∀ i, i < E.n → E.ord i < M) : U.wf M E := by
  refine ⟨⟨by omega, hm, ho⟩, ?_, ?_, ?_, ?_, ?_, ?_, ?_⟩ <;> intro j hj <;> omega
set_option maxHeartbeats 8000000 in
theorem arm_apply (h : InvE di h0) (hk : di.2.1 ≤ 1000) : ∃ h' u, f_V_law_c852 n xs 0 155 205 y4 h0 = some (.inl (y4 + 5, h')) ∧ InvE (di.1, di.2.1 + 1, u) h' ∧ (u = 0 ∨ (u = di.2.2 ∧ ∃ k, f_X11_thrown 155 h' = some k ∧ k ≠ 0)) := by
  obtain ⟨S, c, D, m, U, P, H, Z, X, nw, ed, nv, vt, mv, Dv, rfl, hC, hF⟩ := h
  have e0 : f_V_law_c852 n xs 0 155 205 y4 (tc_mk S c) = armI (f_V_apply 0 205 (tc_mk S c)) (f_X11_apply 155) y4 := rfl
  rw [e0]
  have n10 : ¬ (1 : Int32) = 0 := by decide
  have z0 : tq_bz 0 = some 0 := rfl
  have z1 : tq_bz 1 = some 1 := rfl
  have b0 : bI false = 0 := rfl
  have b1 : ¬ bI true = 0 := by decide
  have i6 : ∀ c, tq_is (tc_mk S c) 131 6 = some () := hC.sch.is
  have i81 : ∀ c, tq_is (tc_mk S c) 81 9 = some () := fun c => by simp (maxSteps := 3000000) (disch := omega) only [Option.bind_some, tc_bs, tq_let, tc_I1, tc_I2, tc_J1, tc_J2, tc_J3, tc_F1, tc_F2, tc_F3, tc_F4, tc_G1, tc_G2, tc_G3, tc_G4, tc_G5, tc_us, tc_un, s_one, s_holds, s_J13_bitCount, bz_bI, hC.upc.f]
  have hT := hC.1.2.1.2
  have i41 : ∀ c, tq_is (tc_mk S c) 41 8 = some () := fun c => by simp (maxSteps := 3000000) (disch := omega) only [Option.bind_some, tc_bs, tq_let, tc_I1, tc_I2, tc_J1, tc_J2, tc_J3, tc_F1, tc_F2, tc_F3, tc_F4, tc_G1, tc_G2, tc_G3, tc_G4, tc_G5, tc_us, tc_un, s_one, s_holds, s_J13_bitCount, bz_bI, hT.f]
  have hw := hC.gt.1.1
  have hu := hC.gu.2.2
  have hm60 := hC.gt.2.2.1.1
  obtain ⟨pv, hpv⟩ := hC.pv
  obtain ⟨r, l1, l2⟩ := s_X9_canBeDone (S := S) hC.t1 hC.upc hw hC.gt.2.1 hC.gt.2.2.1 hu hC.gu.1
  by_cases hdo : U.ok ∧ m + U.ins U.n ≤ 60
  · have hr1 : r = true := l2.mpr hdo
    rw [hr1] at l1
    obtain ⟨hok, hr⟩ := hdo
    have hwE := U.doc_wf hw hu hok hr
    obtain ⟨c1, b1', b2, b3, ⟨rt, t1, t2⟩, ⟨rw', w1, w2⟩, n1, n2, n8, kb⟩ := hC.buildC hok hr
    -- where the class throws
    have bad : ∀ d, Wr bq1 bq2 bq3 bq4 c d → (U.cyc m D ∨ (U.doc m D).tw ∨ (c.2.2.1 155 42 ≠ 0 ∧ (U.doc m D).ty Z 0 0 = false)) → f_X10_apply 0 (tc_mk S c) = some (.inl "java/lang/IllegalStateException", tc_mk S d) → ∃ h' u, armI (f_V_apply 0 205 (tc_mk S c)) (f_X11_apply 155) y4 = some (.inl (y4 + 5, h')) ∧ InvE (di.1, di.2.1 + 1, u) h' ∧ (u = 0 ∨ (u = di.2.2 ∧ ∃ k, f_X11_thrown 155 h' = some k ∧ k ≠ 0)) := by
      intro d kd hbad e5
      obtain ⟨e, a1, a2, a3, a4, a5, a6⟩ := (hC.applyR (e := d) (kd.mono (fun a z => by omega) (fun a z => by omega) (fun q k z => by omega) (fun q k z => by omega)) pv hpv).2.1 ⟨hok, hr⟩ hbad
      refine armI_apply (dg := fun u => (di.1, di.2.1 + 1, u)) (un := di.2.2) hC.mod hC.tq (.inr ⟨1, 0, d, e, by decide, by simp (maxSteps := 3000000) (disch := omega) only [Option.bind_some, tc_bs, tq_let, tc_I1, tc_I2, tc_J1, tc_J2, tc_J3, tc_F1, tc_F2, tc_F3, tc_F4, tc_G1, tc_G2, tc_G3, tc_G4, tc_G5, tc_us, tc_un, s_one, s_holds, s_J13_bitCount, bz_bI, f_V_apply, hC.tq.f, e5, if_true], a1, ?_, a4⟩)
      refine InvE.up (a := di.1) (k := di.2.1) (u := di.2.2) (hC.back hF ((kd.mono (fun a z => by omega) (fun a z => by omega) (fun q k z => by omega) (fun q k z => by omega)).trans (a6.mono (fun a z => by omega) (fun _ z => z.elim) (fun q k z => by omega) (fun _ _ z => z.elim))) a2 a3 (fun v hv => by rw [a5 v hv, kd.1 156 (by omega)])) (by omega)
    -- where all is well
    have good : ∀ c2, Wr bq1 bq2 bq3 bq4 c c2 → Lay c2 41 (U.doc m D) → Nod c2 41 (U.doc m D) (m + U.ins U.n) → c2.1 74 = c1.1 74 → c2.2.2.2.1 81 8 = mkS (U.fr m U.n) → ¬ (U.cyc m D ∨ (U.doc m D).tw ∨ (c.2.2.1 155 42 ≠ 0 ∧ (U.doc m D).ty Z 0 0 = false)) →
        (∀ r c3 c5 c6, f_X8_numberFresh 41 (mkS (U.fr m U.n)) (tc_mk S c2) = some (bI r, tc_mk S c3) → (r = true → c5 = c3) → (r = false → ∃ c4, f_X8_numberAnew 41 (tc_mk S c3) = some (tc_mk S c4) ∧ c4.2.2.1 0 14 = c.2.2.1 0 14 ∧ c5 = tc_F c4 0 14 (c.2.2.1 0 14 + 1)) → f_X9_fresh 81 (tc_mk S c2) = some (mkS (U.fr m U.n)) → f_X10_settle 0 (tc_mk S c5) = some (tc_mk S c6) → f_X3_count 2 (tc_mk S (tc_F c6 81 11 0)) = some (nI (U.doc m D).n) → f_X10_apply 0 (tc_mk S c) = some (.inr (nI (U.doc m D).n), tc_mk S (tc_F c6 81 11 0))) →
        ∃ h' u, armI (f_V_apply 0 205 (tc_mk S c)) (f_X11_apply 155) y4 = some (.inl (y4 + 5, h')) ∧ InvE (di.1, di.2.1 + 1, u) h' ∧ (u = 0 ∨ (u = di.2.2 ∧ ∃ k, f_X11_thrown 155 h' = some k ∧ k ≠ 0)) := by
      intro c2 k2 hL2 hN2 h74 h81 hgood hL
      have h14 : c2.2.2.1 0 14 = c.2.2.1 0 14 := k2.2.2.1 0 14 (by omega)
      obtain ⟨r, c3, c5, g1, g2, g3, g4, g5, g6, g7, g8, g9⟩ := hC.numC hok hr hT hL2 (fun i hi => by rw [h74]; exact n1 i hi) (fun k hk h0 => by rw [h74]; exact n2 k hk h0) h14 hC.tq (fun _ => none)
      obtain ⟨⟨rr, rr1, f⟩, -⟩ := hF
      have k5 : Wr (fun a => bq1 a) bq2 (fun q k => bq3 q k ∨ (q = 0 ∧ k = 14)) bq4 c c5 := (k2.mono (fun a z => z) (fun a z => z) (fun q k z => .inl z) (fun q k z => z)).trans (g9.mono (fun a z => by omega) (fun _ z => z.elim) (fun q k z => .inr z) (fun _ _ z => z.elim))
      have hF5 : FT c5 117 D P D.al rr := by
        obtain ⟨⟨f1, f2, f3, f4⟩, f5, f6⟩ := f
        obtain ⟨x1, x2, x3, x4, x5⟩ := k5
        exact ⟨⟨f1.pt (fun x _ _ => x1 x (by omega)) (fun x _ _ => x2 x (by omega)) (x3 _ _ (by omega)) (x4 _ _ (by omega)) (x4 _ _ (by omega)), f2.w1 (fun x _ _ => x1 x (by omega)) (x3 _ _ (by omega)), by rw [x4 _ _ (by omega)]; exact f3, fun i hi => by rw [x1 _ (by omega)]; exact f4 i hi⟩, by rw [x3 _ _ (by omega)]; exact f5, fun p i hp hi => by rw [x2 _ (by omega)]; exact f6 p i hp hi⟩
      have hN5 : Nod c5 41 (U.doc m D) (m + U.ins U.n) := by
        obtain ⟨x1, x2, x3, x4, x5⟩ := g9
        obtain ⟨y1, y2, y3, y4, y5, y6, y7, y8, y9, y10⟩ := hN2
        refine ⟨y1, y2, by rw [x3 41 10 (by omega)]; exact y3, ?_, ?_, ?_, ?_, ?_, ?_, ?_⟩
        · rw [x1 (41 + 23) (by omega)]; exact y4
        · rw [x1 (41 + 25) (by omega)]; exact y5
        · rw [x1 (41 + 27) (by omega)]; exact y6
        · rw [x1 (41 + 29) (by omega)]; exact y7
        · rw [x1 (41 + 31) (by omega)]; exact y8
        · rw [x1 (41 + 35) (by omega)]; exact y9
        · rw [x1 (41 + 37) (by omega)]; exact y10
      obtain ⟨c6, s1, s2, s3, s4, s5, s6, s7, s8⟩ := s_settle (S := S) (ed := ed) (nw := nw) (E := U.doc m D) (M := m + U.ins U.n) hC.t1 hT hC.tq hC.fa.1 hC.pth hw hwE hC.gp.2.2 hF5 rr1 (by rw [k5.2.2.1 0 13 (by omega)]; exact hC.gv.1) hC.gv.2.2.1 pv (fun k hk => by rw [k5.1 150 (by omega)]; exact ⟨(hpv k hk).1, (hpv k hk).2.1⟩) hN5
      have hL6 : Lay (tc_F c6 81 11 0) 1 (U.doc m D) := s2.pt (fun _ _ _ => rfl) (fun _ _ _ => rfl) rfl rfl rfl
      have e5 := hL r c3 c5 c6 g1 g2 g3 (by simp (maxSteps := 3000000) (disch := omega) only [Option.bind_some, tc_bs, tq_let, tc_I1, tc_I2, tc_J1, tc_J2, tc_J3, tc_F1, tc_F2, tc_F3, tc_F4, tc_G1, tc_G2, tc_G3, tc_G4, tc_G5, tc_us, tc_un, s_one, s_holds, s_J13_bitCount, bz_bI, f_X9_fresh, hC.upc.f, h81]) s1 (s_X3_count (S := S) hC.t1 hL6)
      obtain ⟨c7, ec7⟩ : ∃ c7, c7 = tc_F c6 81 11 0 := ⟨_, rfl⟩
      rw [← ec7] at e5 hL6
      have k7 : Wr Y1 Y2 Y3 Y4 c c7 := by
        rw [ec7]
        exact Wr.trans (Wr.trans (k5.mono (fun a z => by omega) (fun a z => by omega) (fun q k z => by omega) (fun q k z => by omega)) (s8.mono (fun a z => by omega) (fun a z => by omega) (fun q k z => by omega) (fun q k z => by omega))) (Wr.F _ (by omega))
      have kw : Wr Y1 Y2 Y3 Y4 c (ansC c7 (nI (U.doc m D).n).toInt64) := k7.trans (Wr.A _ (by omega))
      obtain ⟨w, v1, v2, v3, v4, v5, v6, v7, v8, v9, v10⟩ := (hC.applyR kw pv hpv).2.2 ⟨hok, hr⟩ hgood
      have e162 : (ansC c7 (nI (U.doc m D).n).toInt64).1 162 = c.1 162 := kw.1 162 (by omega)
      have e10 : (ansC c7 (nI (U.doc m D).n).toInt64).2.2.1 155 10 = c.2.2.1 155 10 := kw.2.2.1 155 10 (by omega)
      rw [e162, e10] at v4 v5
      have kB : Wr B1 B2 B3 B4 c w := (kw.mono (fun a z => by omega) (fun a z => by omega) (fun q k z => by omega) (fun q k z => by omega)).trans (v10.mono (fun a z => by omega) (fun a z => by omega) (fun q k z => by omega) (fun q k z => by omega))
      obtain ⟨y1, y2, y3, y4', y5⟩ := v10
      have y2' : ∀ a, a ≠ 205 → ¬ X2 a → w.2.1 a = c7.2.1 a := fun a h1 h2 => by rw [y2 a h2]; unfold ansC; rw [tc_J2, tc_un _ _ h1]
      have x3 : ∀ q k, ¬ Xa3 q k → w.2.2.1 q k = c7.2.2.1 q k := fun q k h => y3 q k h
      have x4 : ∀ q k, ¬ X4 q k → w.2.2.2.1 q k = c7.2.2.2.1 q k := fun q k h => y4' q k h
      have x1 : ∀ a, ¬ Xa1 a → w.1 a = c7.1 a := fun a h => y1 a h
      have f63 : ∀ q k, q ≠ 81 → c7.2.2.1 q k = c6.2.2.1 q k := fun q k hq => by rw [ec7, tc_F3, tc_un _ _ hq]
      have f61 : c7.1 = c6.1 := by rw [ec7]; rfl
      have f62 : c7.2.1 = c6.2.1 := by rw [ec7]; rfl
      have f64 : c7.2.2.2.1 = c6.2.2.2.1 := by rw [ec7]; rfl
      have hntw : ¬ (U.doc m D).tw := fun z => hgood (.inr (.inl z))
      have h34 : ∀ j, j < (U.doc m D).n → w.1 34 ((U.doc m D).ord j) = c5.1 74 ((U.doc m D).ord j) := fun j hj => by
        rw [x1 34 (by omega), f61]; exact s4 _ ((U.doc m D).ord_lt hwE hj)
      have h014 : w.2.2.1 0 14 = c5.2.2.1 0 14 := by rw [x3 0 14 (by omega), f63 0 14 (by omega), s8.2.2.1 0 14 (by omega)]
      refine armI_apply (dg := fun u => (di.1, di.2.1 + 1, u)) (un := di.2.2) hC.mod hC.tq (.inl ⟨nI (U.doc m D).n, c7, w, by simp (maxSteps := 3000000) (disch := omega) only [Option.bind_some, tc_bs, tq_let, tc_I1, tc_I2, tc_J1, tc_J2, tc_J3, tc_F1, tc_F2, tc_F3, tc_F4, tc_G1, tc_G2, tc_G3, tc_G4, tc_G5, tc_us, tc_un, s_one, s_holds, s_J13_bitCount, bz_bI, f_V_apply, hC.tq.f, e5]; rfl, v1, ?_, v7, y2 205 (by omega)⟩)
      refine hC.tree (E := U.doc m D) (M := m + U.ins U.n) (U' := (0, U.2)) kB ⟨⟨hwE, U.doc_ao hw hu hok hr hntw⟩, hL6.pt (fun a _ _ => x1 a (by omega)) (fun a _ _ => y2' a (by omega) (by omega)) (x3 _ _ (by omega)) (x4 _ _ (by omega)) (x4 _ _ (by omega)), s3.pt (fun a _ _ => by rw [x1 a (by omega), f61]) (by rw [x3 _ _ (by omega), f63 _ _ (by omega)]), v2, v3⟩ ⟨fun j hj hj2 => ?_, fun j hj hj2 => ?_, ?_⟩ ?_ (by omega) (fun v hv => by rw [v9 v hv]; exact congrFun (kw.1 156 (by omega)) v) pv (fun k hk => ⟨(hpv k hk).1, (hpv k hk).2.1, (hpv k hk).2.2.1⟩) (fun j hj => (v6 j hj).2) (fun j hj => ?_) ?_ ?_ (kq := di.2.1 + 1) ?_
      · rw [h34 j hj]
        cases hr2 : r with
        | true => exact g5 hr2 w (v4 (g4.mp hr2)).1 j hj hj2
        | false => exact g6 hr2 w (v5 (fun z => by have := g4.mpr z; rw [hr2] at this; cases this)).1 j hj hj2
      · rw [h34 j hj]; exact g7 j hj hj2
      · rw [h014, g8]
        have hg := hC.2.2.1.2.2
        cases hr2 : r with
        | true => rw [if_pos rfl, (v4 (g4.mp hr2)).2]; exact hg
        | false => rw [if_neg (by decide), (v5 (fun z => by have := g4.mpr z; rw [hr2] at this; cases this)).2, hg]
      · refine ⟨⟨?_, Nat.zero_le _, fun k hk => absurd hk (Nat.not_lt_zero _), fun k hk => absurd hk (Nat.not_lt_zero _), fun k hk => absurd hk (Nat.not_lt_zero _), fun k hk => absurd hk (Nat.not_lt_zero _), fun k hk => absurd hk (Nat.not_lt_zero _), fun k hk => absurd hk (Nat.not_lt_zero _)⟩, ⟨v8, Nat.zero_le _, fun k hk => absurd hk (Nat.not_lt_zero _), fun k hk => absurd hk (Nat.not_lt_zero _), fun k hk => absurd hk (Nat.not_lt_zero _), fun k hk => absurd hk (Nat.not_lt_zero _), fun k hk => absurd hk (Nat.not_lt_zero _), fun k hk => absurd hk (Nat.not_lt_zero _), fun k hk => absurd hk (Nat.not_lt_zero _)⟩, Ups.mty rfl hr s3.2.1⟩
        rw [x3 81 11 (by omega), ec7]; rfl
      · rw [(v6 j hj).1, x1 152 (by omega), f61]; exact s7 j hj
      · obtain ⟨r', r1, f⟩ := s5
        obtain ⟨⟨f1, f2, f3, f4⟩, f5, f6⟩ := f
        exact ⟨r', r1, ⟨f1.pt (fun x _ _ => by rw [x1 x (by omega), f61]) (fun x _ _ => by rw [y2' x (by omega) (by omega), f62]) (by rw [x3 _ _ (by omega), f63 _ _ (by omega)]) (by rw [x4 _ _ (by omega), f64]) (by rw [x4 _ _ (by omega), f64]), f2.w1 (fun x _ _ => by rw [x1 x (by omega), f61]) (by rw [x3 _ _ (by omega), f63 _ _ (by omega)]), by rw [x4 _ _ (by omega), f64]; exact f3, fun i hi => by rw [x1 _ (by omega), f61]; exact f4 i hi⟩, by rw [x3 _ _ (by omega), f63 _ _ (by omega)]; exact f5, fun p i hp hi => by rw [y2' _ (by omega) (by omega), f62]; exact f6 p i hp hi⟩
      · rw [x3 0 18 (by omega), f63 0 18 (by omega)]; exact s6
      · have hq : Rise (c.1 34) D di.2.1 := hC.gq.2
        refine ⟨fun z => ?_, ?_⟩
        · rw [kB.2.2.1 131 10 (by omega)] at z
          cases hh : (U.doc m D).ty Z 0 0 with
          | true => rfl
          | false =>
            obtain ⟨-, -, st, st1, st2⟩ := hC.gs
            exact absurd (.inr (.inr ⟨by rw [st2, ← st1, z]; decide, hh⟩)) hgood
        · cases hr2 : r with
          | true =>
            have nb := (v4 (g4.mp hr2)).1
            refine Rise.new hw hu hok hr hk (hq.cg (N' := c.1 162) fun j hj kj => (hC.2.2.1.1 j hj kj).symm) (g4.mp hr2) fun j hj kj => ?_
            rw [h34 j hj, g5 hr2 w nb j hj kj]
            cases e : (U.doc m D).frQ (U.fr m U.n) j with
            | true => rw [if_pos rfl]; exact nb.1 j e
            | false =>
              rw [if_neg (by decide)]
              refine nb.2 _ fun j' hj' z => ?_
              have hj2 : j' < (U.doc m D).n := by
                unfold Doc.frQ at hj'
                rw [Bool.and_eq_true] at hj'
                exact (of_decide_eq_true hj'.2).1
              have := (U.doc m D).ord_inj hwE hj2 hj z
              subst this; rw [e] at hj'; cases hj'
          | false =>
            have na := (v5 (fun z => by have := g4.mpr z; rw [hr2] at this; cases this)).1
            refine Rise.anew hwE fun j hj kj => ?_
            rw [h34 j hj, g6 hr2 w na j hj kj]
            exact na.1 j hj kj
    cases hrt : rt with
    | true =>
      rw [hrt] at t1
      exact bad c1 kb (.inl (t2.mp hrt)) (by simp (maxSteps := 3000000) (disch := omega) only [Option.bind_some, tc_bs, tq_let, tc_I1, tc_I2, tc_J1, tc_J2, tc_J3, tc_F1, tc_F2, tc_F3, tc_F4, tc_G1, tc_G2, tc_G3, tc_G4, tc_G5, tc_us, tc_un, s_one, s_holds, s_J13_bitCount, bz_bI, f_X10_apply, hC.tq.f, i81, l1, b1, b1', i41, t1, if_false])
    | false =>
      rw [hrt] at t1
      cases hrw : rw' with
      | true =>
        rw [hrw] at w1
        exact bad c1 kb (.inr (.inl (w2.mp hrw))) (by simp (maxSteps := 3000000) (disch := omega) only [Option.bind_some, tc_bs, tq_let, tc_I1, tc_I2, tc_J1, tc_J2, tc_J3, tc_F1, tc_F2, tc_F3, tc_F4, tc_G1, tc_G2, tc_G3, tc_G4, tc_G5, tc_us, tc_un, s_one, s_holds, s_J13_bitCount, bz_bI, f_X10_apply, hC.tq.f, i81, l1, b1, b1', i41, t1, b0, w1, if_true, if_false])
      | false =>
        rw [hrw] at w1
        have hncyc : ¬ U.cyc m D := fun z => by have := t2.mpr z; rw [hrt] at this; cases this
        have hntw : ¬ (U.doc m D).tw := fun z => by have := w2.mpr z; rw [hrw] at this; cases this
        have e131 : c1.2.2.1 131 10 = c.2.2.1 131 10 := kb.2.2.1 131 10 (by omega)
        rcases hC.loose with ⟨s1, s2, s3⟩ | ⟨s1, s2, s3⟩
        · have l3 : f_X6_isStrict 131 (tc_mk S c1) = some 0 := by simp (maxSteps := 3000000) (disch := omega) only [Option.bind_some, tc_bs, tq_let, tc_I1, tc_I2, tc_J1, tc_J2, tc_J3, tc_F1, tc_F2, tc_F3, tc_F4, tc_G1, tc_G2, tc_G3, tc_G4, tc_G5, tc_us, tc_un, s_one, s_holds, s_J13_bitCount, bz_bI, f_X6_isStrict, hC.sch.f, e131, s1, z0]
          refine good c1 kb b2 b3 rfl n8 (fun z => ?_) fun r c3 c5 c6 g1 g2 g3 g4 g5 g6 => ?_
          · rcases z with z | z | z
            · exact hncyc z
            · exact hntw z
            · exact z.1 s2
          · cases hr2 : r with
            | true =>
              rw [hr2] at g1
              rw [g2 hr2] at g5
              simp (maxSteps := 3000000) (disch := omega) only [Option.bind_some, tc_bs, tq_let, tc_I1, tc_I2, tc_J1, tc_J2, tc_J3, tc_F1, tc_F2, tc_F3, tc_F4, tc_G1, tc_G2, tc_G3, tc_G4, tc_G5, tc_us, tc_un, s_one, s_holds, s_J13_bitCount, bz_bI, f_X10_apply, hC.tq.f, i81, l1, b1, b1', i41, t1, b0, w1, i6, l3, g4, g1, g5, f_X9_empty, hC.upc.f, hC.t1.f, hC.t1.is, g6, if_true, if_false]
            | false =>
              rw [hr2] at g1
              obtain ⟨c4, a1, a2, a3⟩ := g3 hr2
              rw [a3] at g5
              simp (maxSteps := 3000000) (disch := omega) only [Option.bind_some, tc_bs, tq_let, tc_I1, tc_I2, tc_J1, tc_J2, tc_J3, tc_F1, tc_F2, tc_F3, tc_F4, tc_G1, tc_G2, tc_G3, tc_G4, tc_G5, tc_us, tc_un, s_one, s_holds, s_J13_bitCount, bz_bI, f_X10_apply, hC.tq.f, i81, l1, b1, b1', i41, t1, b0, w1, i6, l3, g4, g1, a1, a2, g5, f_X9_empty, hC.upc.f, hC.t1.f, hC.t1.is, g6, if_true, if_false]
        · have l3 : f_X6_isStrict 131 (tc_mk S c1) = some 1 := by simp (maxSteps := 3000000) (disch := omega) only [Option.bind_some, tc_bs, tq_let, tc_I1, tc_I2, tc_J1, tc_J2, tc_J3, tc_F1, tc_F2, tc_F3, tc_F4, tc_G1, tc_G2, tc_G3, tc_G4, tc_G5, tc_us, tc_un, s_one, s_holds, s_J13_bitCount, bz_bI, f_X6_isStrict, hC.sch.f, e131, s1, z1]
          have hgs : GS c1 Z := hC.gs.wr kb (fun a _ => by omega) (fun q k _ => by omega)
          obtain ⟨f, l4⟩ := s_admits (S := S) (Z := Z) hC.sch hT (.inl (by omega)) hwE b2 b3 hgs.1
          have k2 : Wr bq1 bq2 bq3 bq4 c (tc_I c1 141 f) := kb.trans (Wr.I _ (by omega))
          have n42 : c.2.2.1 155 42 ≠ 0 := by rw [s2]; exact n10
          cases hty : (U.doc m D).ty Z 0 0 with
          | false =>
            rw [hty] at l4
            exact bad (tc_I c1 141 f) k2 (.inr (.inr ⟨n42, hty⟩)) (by simp (maxSteps := 3000000) (disch := omega) only [Option.bind_some, tc_bs, tq_let, tc_I1, tc_I2, tc_J1, tc_J2, tc_J3, tc_F1, tc_F2, tc_F3, tc_F4, tc_G1, tc_G2, tc_G3, tc_G4, tc_G5, tc_us, tc_un, s_one, s_holds, s_J13_bitCount, bz_bI, f_X10_apply, hC.tq.f, i81, l1, b1, b1', i41, t1, b0, w1, i6, l3, n10, l4, if_true, if_false])
          | true =>
            rw [hty] at l4
            refine good (tc_I c1 141 f) k2 (b2.pt (fun a _ _ => by rw [tc_I1, tc_un _ _ (by omega)]) (fun _ _ _ => rfl) rfl rfl rfl) (b3.pt (fun a _ _ => by rw [tc_I1, tc_un _ _ (by omega)]) rfl) (by rw [tc_I1, tc_un _ _ (by omega)]) n8 (fun z => ?_) fun r c3 c5 c6 g1 g2 g3 g4 g5 g6 => ?_
            · rcases z with z | z | z
              · exact hncyc z
              · exact hntw z
              · rw [hty] at z; exact absurd z.2 (by decide)
            · cases hr2 : r with
              | true =>
                rw [hr2] at g1
                rw [g2 hr2] at g5
                simp (maxSteps := 3000000) (disch := omega) only [Option.bind_some, tc_bs, tq_let, tc_I1, tc_I2, tc_J1, tc_J2, tc_J3, tc_F1, tc_F2, tc_F3, tc_F4, tc_G1, tc_G2, tc_G3, tc_G4, tc_G5, tc_us, tc_un, s_one, s_holds, s_J13_bitCount, bz_bI, f_X10_apply, hC.tq.f, i81, l1, b1, b1', i41, t1, b0, w1, i6, l3, n10, l4, g4, g1, g5, f_X9_empty, hC.upc.f, hC.t1.f, hC.t1.is, g6, if_true, if_false]
              | false =>
                rw [hr2] at g1
                obtain ⟨c4, a1, a2, a3⟩ := g3 hr2
                rw [a3] at g5
                simp (maxSteps := 3000000) (disch := omega) only [Option.bind_some, tc_bs, tq_let, tc_I1, tc_I2, tc_J1, tc_J2, tc_J3, tc_F1, tc_F2, tc_F3, tc_F4, tc_G1, tc_G2, tc_G3, tc_G4, tc_G5, tc_us, tc_un, s_one, s_holds, s_J13_bitCount, bz_bI, f_X10_apply, hC.tq.f, i81, l1, b1, b1', i41, t1, b0, w1, i6, l3, n10, l4, g4, g1, a1, a2, g5, f_X9_empty, hC.upc.f, hC.t1.f, hC.t1.is, g6, if_true, if_false]
  · have hr0 : r = false := by
      cases hh : r with
      | false => rfl
      | true => exact absurd (l2.mp hh) hdo
    rw [hr0] at l1
    have e5 : f_X10_apply 0 (tc_mk S c) = some (.inl "java/lang/IllegalStateException", tc_mk S c) := by
      simp (maxSteps := 3000000) (disch := omega) only [Option.bind_some, tc_bs, tq_let, tc_I1, tc_I2, tc_J1, tc_J2, tc_J3, tc_F1, tc_F2, tc_F3, tc_F4, tc_G1, tc_G2, tc_G3, tc_G4, tc_G5, tc_us, tc_un, s_one, s_holds, s_J13_bitCount, bz_bI, f_X10_apply, hC.tq.f, i81, l1, b0, if_true]
    refine armI_apply (dg := fun u => (di.1, di.2.1 + 1, u)) (un := di.2.2) hC.mod hC.tq (.inr ⟨1, 0, c, tc_F c 155 0 1, by decide, by simp (maxSteps := 3000000) (disch := omega) only [Option.bind_some, tc_bs, tq_let, tc_I1, tc_I2, tc_J1, tc_J2, tc_J3, tc_F1, tc_F2, tc_F3, tc_F4, tc_G1, tc_G2, tc_G3, tc_G4, tc_G5, tc_us, tc_un, s_one, s_holds, s_J13_bitCount, bz_bI, f_V_apply, hC.tq.f, e5, if_true], (hC.applyR (Wr.refl c) pv hpv).1 hdo, InvE.up (a := di.1) (k := di.2.1) (u := di.2.2) (hC.fin hF 1) (by omega), rfl⟩)
end APC
