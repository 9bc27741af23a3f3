/-! ===== the reference compares two versions: pieces ===== -/
abbrev zrF (c : tc_C) (a b : Nat) : Int32 := c.1 204 (61 * a + b)
abbrev zrT (c : tc_C) (i j : Nat) : Int32 := c.1 203 (61 * (i + 1) + (j + 1))
def zRA (D E : Doc) (c : tc_C) : Prop := (∀ p, p < D.n → c.1 201 (p + 1) = nI (D.ord (D.ip p)) ∧ c.1 202 (p + 1) = nI (D.lf p + 1)) ∧ (∀ p, p < E.n → c.1 201 (61 + (p + 1)) = nI (E.ord (E.ip p)) ∧ c.1 202 (61 + (p + 1)) = nI (E.lf p + 1)) ∧ c.1 200 0 = nI D.n ∧ c.1 200 1 = nI E.n
def zRE (c c' : tc_C) : Prop := (∀ a, a ≠ 203 → a ≠ 204 → c'.1 a = c.1 a) ∧ c'.2 = c.2
def zAL (v1 v2 : Nat) (D E : Doc) (c : tc_C) : Prop := KV c v1 D ∧ KV c v2 E ∧ (∀ j, j < D.n → c.1 156 (D.ord j) = D.kd j) ∧ ∀ j, j < E.n → c.1 156 (E.ord j) = E.kd j
abbrev zRC (D E : Doc) (k1 k2 i j : Nat) (c : tc_C) : Prop := zCI D.lf E.lf (D.co E) D.n E.n k1 k2 i j (zrF c) (zrT c)
section RPF
variable {S : tq_H} {c c' c'' : tc_C} {D E : Doc} {b e q i j k k1 k2 n m l z v1 v2 : Nat}
theorem zRE.refl (c : tc_C) : zRE c c := ⟨fun _ _ _ => rfl, rfl⟩
theorem zRE.trans (h : zRE c c') (g : zRE c' c'') : zRE c c'' := ⟨fun a h1 h2 => (g.1 a h1 h2).trans (h.1 a h1 h2), g.2.trans h.2⟩
theorem zRA.eo (h : zRA D E c) (g : zRE c c') : zRA D E c' := by
  unfold zRA
  rw [g.1 200 (by omega) (by omega), g.1 201 (by omega) (by omega), g.1 202 (by omega) (by omega)]
  exact h
theorem zAL.eo (h : zAL v1 v2 D E c) (g : zRE c c') : zAL v1 v2 D E c' := ⟨h.1.pt fun a _ _ => g.1 a (by omega) (by omega), h.2.1.pt fun a _ _ => g.1 a (by omega) (by omega), by rw [g.1 156 (by omega) (by omega)]; exact h.2.2.1, by rw [g.1 156 (by omega) (by omega)]; exact h.2.2.2⟩
theorem nI_least {a b d : Nat} (ha : a < 2 ^ 31) (hb : b < 2 ^ 31) (hd : d < 2 ^ 31) (h : tq_H) : f_X11_least (nI a) (nI b) (nI d) h = some (nI (min (min a b) d)) := by
  have key : ∀ x y : Nat, x < 2 ^ 31 → y < 2 ^ 31 → (if nI x ≥ nI y then nI y else nI x) = nI (min x y) := fun x y hx hy => by
    by_cases q : y ≤ x
    · rw [if_pos ((nI_leI hy hx).mpr q), Nat.min_eq_right q]
    · rw [if_neg (fun w => q ((nI_leI hy hx).mp w)), Nat.min_eq_left (by omega)]
  unfold f_X11_least
  rw [key a b ha hb, tq_let, key _ d (by omega) hd, tq_let]
theorem r_step (hM : tc_Mod S z) (hw : D.wf) (hw2 : E.wf) (hv1 : v1 < 6) (hv2 : v2 < 6) (hA : zRA D E c) (hL : zAL v1 v2 D E c) (hk1 : k1 < D.n) (hk2 : k2 < E.n) (hK1 : zK D.n D.lf k1) (hK2 : zK E.n E.lf k2) (hi : D.lf k1 ≤ i ∧ i ≤ k1) (hj : E.lf k2 ≤ j ∧ j ≤ k2) (h : zRC D E k1 k2 i j c) :
    ∃ c', f_X11_compareAt_b151 155 (nI (k1 + 1)) (nI (k2 + 1)) (nI v1) (nI v2) (nI (D.lf k1 + 1)) (nI (E.lf k2 + 1)) (nI (i + 1)) (nI (j + 1), tc_mk S c) = some (.inl (nI (j + 1 + 1), tc_mk S c')) ∧ zRC D E k1 k2 i (j + 1) c' ∧ zRE c c' := by
  have hn := D.n_le hw
  have hn2 := E.n_le hw2
  obtain ⟨r1, r2, r3, r4, r5⟩ := h.read (D.pol hw) (E.pol hw2) hk1 hk2 hK1 hK2 hi hj
  obtain ⟨p1, p2⟩ := (D.pol hw).in hk1 hi.1 hi.2
  obtain ⟨o1, o2⟩ := (E.pol hw2).in hk2 hj.1 hj.2
  have hV := dpF_s (co := D.co E) hi.1 hj.1 ⟨p1, p2⟩ ⟨o1, o2⟩
  have stp := fun F' t' => h.step (F' := F') (t' := t') (D.pol hw) (E.pol hw2) hk1 hk2 hi hj
  have b1 := dpF_b D.lf E.lf (D.co E) (D.lf k1) (E.lf k2) i (j + 1)
  have b2 := dpF_b D.lf E.lf (D.co E) (D.lf k1) (E.lf k2) (i + 1) j
  have b3 := dpF_b D.lf E.lf (D.co E) (D.lf k1) (E.lf k2) i j
  have b4 := dpF_b D.lf E.lf (D.co E) (D.lf k1) (E.lf k2) (D.lf i) (E.lf j)
  have b5 := dpF_b D.lf E.lf (D.co E) (D.lf i) (E.lf j) (i + 1) (j + 1)
  have b6 := D.co_le E i j
  obtain ⟨a1, a2⟩ := hA.1 i (by omega)
  obtain ⟨a3, a4⟩ := hA.2.1 j (by omega)
  obtain ⟨ip1, -⟩ := D.ip_sp hw (show i < D.n by omega)
  obtain ⟨ip2, -⟩ := E.ip_sp hw2 (show j < E.n by omega)
  have al := r_isAlike (S := S) hM hw hw2 hv1 hv2 hL.1 hL.2.1 hL.2.2.1 hL.2.2.2 ip1 ip2
  have al2 : (if bI (decide (D.kd (D.ip i) = E.kd (E.ip j) ∧ D.nm (D.ip i) = E.nm (E.ip j) ∧ D.vl (D.ip i) = E.vl (E.ip j) ∧ D.dc (D.ip i) = E.dc (E.ip j))) = 0 then (1 : Int32) else 0) = nI (D.co E i j) := by
    unfold Doc.co
    by_cases w : D.kd (D.ip i) = E.kd (E.ip j) ∧ D.nm (D.ip i) = E.nm (E.ip j) ∧ D.vl (D.ip i) = E.vl (E.ip j) ∧ D.dc (D.ip i) = E.dc (E.ip j)
    · rw [if_pos w, decide_eq_true w]; rfl
    · rw [if_neg w, decide_eq_false w]; rfl
  obtain ⟨V, eV⟩ : ∃ V, V = dpF D.lf E.lf (D.co E) (D.lf k1) (E.lf k2) (i + 1) (j + 1) := ⟨_, rfl⟩
  rw [← eV] at hV
  simp only [← eV] at stp
  unfold zTD at r5
  generalize dpF D.lf E.lf (D.co E) (D.lf k1) (E.lf k2) i (j + 1) = U at *
  generalize dpF D.lf E.lf (D.co E) (D.lf k1) (E.lf k2) (i + 1) j = L at *
  generalize dpF D.lf E.lf (D.co E) (D.lf k1) (E.lf k2) i j = G at *
  generalize dpF D.lf E.lf (D.co E) (D.lf k1) (E.lf k2) (D.lf i) (E.lf j) = X at *
  generalize dpF D.lf E.lf (D.co E) (D.lf i) (E.lf j) (i + 1) (j + 1) = T at *
  generalize D.co E i j = w at *
  have x4 : ∀ a b, (61 : Int32) * nI a + nI b = nI (61 * a + b) := fun a b => by rw [show (61 : Int32) = nI 61 from rfl, nI_mul, nI_add]
  have x5 : ∀ a, (61 : Int32) + nI a = nI (61 + a) := fun a => by rw [show (61 : Int32) = nI 61 from rfl, nI_add]
  have m1 : ∀ a, nI (a + 1) - 1 = nI a := fun a => nI_m1 (by omega)
  have m2 : ∀ a b, nI (61 * a + (b + 1)) - 1 = nI (61 * a + b) := fun a b => nI_m1 (by omega)
  have r1 : c.1 204 (61 * i + (j + 1)) = nI U := r1
  have r2 : c.1 204 (61 * (i + 1) + j) = nI L := r2
  have r3 : c.1 204 (61 * i + j) = nI G := r3
  have r4 : c.1 204 (61 * D.lf i + E.lf j) = nI X := r4
  have iff1 := nI_eq (a := D.lf i + 1) (b := D.lf k1 + 1) (by omega) (by omega)
  have iff2 := nI_eq (a := E.lf j + 1) (b := E.lf k2 + 1) (by omega) (by omega)
  have e1 : ¬ nI (j + 1) > nI (k2 + 1) := nI_nlt (by omega) (by omega)
  have l1 : 61 * (i + 1) + (j + 1) < 3721 := by omega
  have is11 : tq_is (tc_mk S c) 155 11 = some () := by simp (maxSteps := 3000000) (disch := omega) only [Option.bind_some, tc_bs, tq_let, tc_I1, tc_I2, tc_J1, tc_J2, tc_J3, tc_F1, tc_F2, tc_F3, tc_F4, tc_G1, tc_G2, tc_G3, tc_G4, tc_G5, tc_us, tc_un, s_one, s_holds, s_J13_bitCount, bz_bI, hM.f]
  have z1 : ¬ (1 : Int32) = 0 := by decide
  have fin1 : ∀ (c' : tc_C), (c'.1 204 = upd (c.1 204) (61 * (i + 1) + (j + 1)) (nI V)) → zrF c' (i + 1) (j + 1) = nI V ∧ ∀ a b, D.lf k1 ≤ a → a ≤ k1 + 1 → E.lf k2 ≤ b → b ≤ k2 + 1 → ¬ (a = i + 1 ∧ b = j + 1) → zrF c' a b = zrF c a b := fun c' hc => by
    refine ⟨?_, fun a b h1 h2 h3 h4 h5 => ?_⟩
    · show c'.1 204 _ = _
      rw [hc, upd_s]
    · show c'.1 204 _ = _
      rw [hc, upd_n _ _ (by omega)]
  by_cases q1 : D.lf i = D.lf k1 ∧ E.lf j = E.lf k2
  · have y1 := iff1.mpr (by rw [q1.1])
    have y2 := iff2.mpr (by rw [q1.2])
    rw [if_pos q1] at hV
    have hv : f_X11_least (nI (U + 1)) (nI (L + 1)) (nI (G + w)) (tc_mk S c) = some (nI V) := by
      rw [nI_least (by omega) (by omega) (by omega)]; congr 2; omega
    obtain ⟨c1, ec⟩ : ∃ c1, c1 = tc_I c 204 (upd (c.1 204) (61 * (i + 1) + (j + 1)) (nI V)) := ⟨_, rfl⟩
    have rd : c1.1 204 (61 * (i + 1) + (j + 1)) = nI V := by rw [ec, tc_I1, tc_us, upd_s]
    refine ⟨tc_I c1 203 (upd (c1.1 203) (61 * (i + 1) + (j + 1)) (nI V)), ?_, ?_, fun a h1 h2 => ?_, by rw [ec]; rfl⟩
    · simp (maxSteps := 3000000) (disch := omega) only [Option.bind_some, tc_bs, tq_let, tc_I1, tc_I2, tc_J1, tc_J2, tc_J3, tc_F1, tc_F2, tc_F3, tc_F4, tc_G1, tc_G2, tc_G3, tc_G4, tc_G5, tc_us, tc_un, s_one, s_holds, s_J13_bitCount, bz_bI, f_X11_compareAt_b151, hM.f, e1, m1, x4, x5, m2, r1, r2, r3, a2, a4, a1, a3, y1, y2, is11, al, al2, nI_add, nI_1, hv, z1, if_true, if_false]
      rw [← ec]
      rw [show c1.1 203 = c.1 203 by rw [ec, tc_I1, tc_un _ _ (by omega)], upd_s]
    · obtain ⟨t1, t2⟩ := fin1 (tc_I c1 203 (upd (c1.1 203) (61 * (i + 1) + (j + 1)) (nI V))) (by rw [tc_I1, tc_un _ _ (by omega), ec, tc_I1, tc_us])
      refine stp _ _ t1 t2 (fun _ => ?_) (fun a b ha hb hn => ?_)
      · show (tc_I _ _ _).1 203 _ = _
        rw [tc_I1, tc_us, upd_s]
      · show (tc_I _ _ _).1 203 _ = c.1 203 _
        rw [tc_I1, tc_us, upd_n _ _ (by omega), ec, tc_I1, tc_un _ _ (by omega)]
    · rw [tc_I1, tc_un _ _ h1, ec, tc_I1, tc_un _ _ h2]
  · rw [if_neg q1] at hV
    have v7 : c.1 203 (61 * (i + 1) + (j + 1)) = nI T := r5 q1
    have hv : f_X11_least (nI (U + 1)) (nI (L + 1)) (nI (X + T)) (tc_mk S c) = some (nI V) := by
      rw [nI_least (by omega) (by omega) (by omega)]; congr 2; omega
    obtain ⟨c1, ec⟩ : ∃ c1, c1 = tc_I c 204 (upd (c.1 204) (61 * (i + 1) + (j + 1)) (nI V)) := ⟨_, rfl⟩
    have rd : c1.1 203 (61 * (i + 1) + (j + 1)) = nI T := by rw [ec, tc_I1, tc_un _ _ (by omega)]; exact v7
    have run : f_X11_compareAt_b151 155 (nI (k1 + 1)) (nI (k2 + 1)) (nI v1) (nI v2) (nI (D.lf k1 + 1)) (nI (E.lf k2 + 1)) (nI (i + 1)) (nI (j + 1), tc_mk S c) = some (.inl (nI (j + 1 + 1), tc_mk S (tc_I c1 203 (upd (c1.1 203) (61 * (i + 1) + (j + 1)) (nI T))))) := by
      by_cases y : D.lf i = D.lf k1
      · have y1 := iff1.mpr (by rw [y])
        have y2 : ¬ nI (E.lf j + 1) = nI (E.lf k2 + 1) := fun x => q1 ⟨y, by have := iff2.mp x; omega⟩
        rw [y] at r4
        rw [y1] at a2
        simp (maxSteps := 3000000) (disch := omega) only [Option.bind_some, tc_bs, tq_let, tc_I1, tc_I2, tc_J1, tc_J2, tc_J3, tc_F1, tc_F2, tc_F3, tc_F4, tc_G1, tc_G2, tc_G3, tc_G4, tc_G5, tc_us, tc_un, s_one, s_holds, s_J13_bitCount, bz_bI, f_X11_compareAt_b151, hM.f, e1, m1, x4, x5, m2, r1, r2, r4, a2, a4, y2, v7, nI_add, nI_1, hv, if_true, if_false]
        rw [← ec]
        rw [show c1.1 203 = c.1 203 by rw [ec, tc_I1, tc_un _ _ (by omega)]]
      · have y1 : ¬ nI (D.lf i + 1) = nI (D.lf k1 + 1) := fun x => y (by have := iff1.mp x; omega)
        simp (maxSteps := 3000000) (disch := omega) only [Option.bind_some, tc_bs, tq_let, tc_I1, tc_I2, tc_J1, tc_J2, tc_J3, tc_F1, tc_F2, tc_F3, tc_F4, tc_G1, tc_G2, tc_G3, tc_G4, tc_G5, tc_us, tc_un, s_one, s_holds, s_J13_bitCount, bz_bI, f_X11_compareAt_b151, hM.f, e1, m1, x4, x5, m2, r1, r2, r4, a2, a4, y1, v7, nI_add, nI_1, hv, if_true, if_false]
        rw [← ec]
        rw [show c1.1 203 = c.1 203 by rw [ec, tc_I1, tc_un _ _ (by omega)]]
    refine ⟨_, run, ?_, fun a h1 h2 => ?_, by rw [ec]; rfl⟩
    · obtain ⟨t1, t2⟩ := fin1 (tc_I c1 203 (upd (c1.1 203) (61 * (i + 1) + (j + 1)) (nI T))) (by rw [tc_I1, tc_un _ _ (by omega), ec, tc_I1, tc_us])
      refine stp _ _ t1 t2 (fun z => absurd z q1) (fun a b ha hb hn => ?_)
      show (tc_I _ _ _).1 203 _ = c.1 203 _
      rw [tc_I1, tc_us]
      by_cases y : a = i ∧ b = j
      · obtain ⟨rfl, rfl⟩ := y
        rw [upd_s, v7]
      · rw [upd_n _ _ (by omega), ec, tc_I1, tc_un _ _ (by omega)]
    · rw [tc_I1, tc_un _ _ h1, ec, tc_I1, tc_un _ _ h2]
end RPF
