/-! ===== new things, answers, throws, contracts and calls ===== -/
/-- where a method's world may be written: its own things, and what is new -/
theorem tq_A1 {A : Nat → Prop} {ws : va_W} {H0 H : Heap} {locs : List Loc} (hD : va_D A ws) (hS : va_S A H0 H locs) (hA : ∀ q, H0.size ≤ q → A q) : ∀ q, va_A ws H.size q → A q := by
  intro q h
  rcases h with ⟨k, e, h⟩ | h
  · exact hD.2 k _ h
  · exact hA q (Nat.le_trans hS.1 h)
theorem tq_zq.now {A B : Nat → Prop} {s U : State} {H : Heap} {locs : List Loc} (h : tq_zq A s s.heap) (hS : va_S A s.heap H locs) (hB : ∀ q, B q → A q) (hW : s.WarmedH U.vm) : tq_zq B U H :=
  ⟨((vx_Zq.moved hW.alike (h.1.kept hS.2.1)).narrow hB), ((vx_Zq.moved hW.alike (h.2.kept hS.2.1)).narrow hB)⟩
def tq_rm (d bc bs : Nat) : Room := { frames := d, cells := bc, slots := bs, locals := 38 * d + 20 }
def tq_Pc (D : va_G) (cA : Nat → ClassId) (ws : va_W) (as : List Value) (sz : Nat) : Array Value → State → Prop := fun a U =>
  a = as.toArray ∧ U.heap.size = sz ∧ va_P D tq_cl ws U.heap ∧ va_K D tq_cl (tq_ty cA) U ∧ va_D (fun _ => True) ws ∧ tq_zq (va_A ws sz) U U.heap ∧ tq_bx U
/-- a method's contract, in any world h: from these arguments, at most so deep, at most so many new things: Q -/
def tq_C (l : Launch) (y : MethodName) (cc : ByteArray) (nL : Nat) (ret : Option FieldType) (d bc bs : Nat) (as : List Value) (h : tq_H) (Q : tq_R → tq_H → Prop) : Prop :=
  l.stackTraces = false → ∀ (D : va_G) (cA : Nat → ClassId) (ws : va_W) (as' : List Value) (sz : Nat), tq_w cA h ws → tq_al (tq_vr (tq_ad ws)) as as' →
    vx_Met l y (Cond.code y cc nL ret :: tq_G) (tq_rm d bc bs) (tq_Pc D cA ws as' sz) (tq_Qc D cA (va_A ws sz) (tq_ad ws) Q) (tq_XC D cA (va_A ws sz) (tq_ad ws) Q) bc bs (va_A ws sz)
theorem tq_al_args {ad : List Nat} : ∀ {as as' : List Value} (i : Nat), tq_al (tq_vr ad) as as' → tq_al (tq_lr ad) (lv_args i as) (lv_args i as')
  | [], [], _, _ => trivial
  | a :: as, b :: bs, i, q => by
    have e := q.1.cat
    refine ⟨⟨rfl, q.1⟩, ?_⟩
    rw [e]
    exact tq_al_args _ q.2
  | [], _ :: _, _, q => q.elim
  | _ :: _, [], _, q => q.elim
theorem tq_sl_len {ad : List Nat} : ∀ {as as' : List Value}, tq_al (tq_vr ad) as as' → (lg_sl as).length = (lg_sl as').length
  | [], [], _ => rfl
  | a :: as, b :: bs, q => by
    have e := q.1.cat
    have h := tq_sl_len q.2
    simp only [lg_sl, List.flatMap_cons, List.length_append] at h ⊢
    rw [h]
    congr 1
    cases a <;> cases b <;> simp_all [Value.category]
  | [], _ :: _, q => q.elim
  | _ :: _, [], q => q.elim
theorem tq_body {l : Launch} {y : MethodName} {cc : ByteArray} {nL : Nat} {ret : Option FieldType} {d bc bs : Nat} {as : List Value} {h : tq_H} {Q : tq_R → tq_H → Prop} (b : Bool) (hy : plainName y.cls = true) (hb : b = true → y.name = "<init>") (hlen : (lg_sl as).length ≤ nL)
    (k : tq_W l (y.cls, cc, nL, ret, b, [], none) d bc bs Q 0 (lv_args 0 as) [] h) : tq_C l y cc nL ret d bc bs as h Q := by
  intro hl D cA ws as' sz hw hal
  refine vx_ofW (ws' := tq_G) hy rfl ?_
  intro p e s m args below meth c s₁ B hml ht hv
  obtain ⟨rfl, hsz, hP, hK, hD0, hz, hbx⟩ := hv
  have hts : ∀ w ∈ tq_G, w.before as'.toArray s = true := fun w hw2 => atoms_spec (ws := Cond.code y cc nL ret :: tq_G) B.pre w (List.mem_cons_of_mem _ hw2)
  have hown : s.vm.findClass y.cls = some m.cls := findClass_of_methodNamed B.named
  subst hsz
  have hD := hD0.self (sz := s.heap.size)
  have hent := lv_entry as' (n := nL) (by rw [← tq_sl_len hal]; exact hlen)
  rw [lg_entry_eq]
  generalize (lg_sl as' ++ List.replicate (nL - (lg_sl as').length) Slot.unset).toArray = ls at hent ⊢
  have X : tq_cx l (y.cls, cc, nL, ret, b, [], none) d p (headSpec (Cond.code y cc nL ret :: tq_G) (tq_rm d bc bs)).room s m as'.toArray meth c D cA (va_A ws s.heap.size) bc bs :=
    ⟨B.exec, B.bytes, hml, B.returns, B.notSynchronized, hown, hts, hK, rfl, rfl, Nat.le_refl _, Nat.le_refl _, fun q hq => Or.inr hq, hz, fun hbt => (name_of_methodNamed B.named B.method).1.trans (hb hbt), by
      cases hq : c.exceptionTable.toList with
      | nil => rfl
      | cons x r => exact (ht x (by rw [hq]; exact List.mem_cons_self)).elim, hbx, hl, fun q hq => by cases hq⟩
  exact k X (cells := 0) (slots := 0) ⟨hP, hD, va_S.rf, hw, List.prefix_refl _, ⟨_, hent, tq_al_args 0 hal⟩, trivial⟩ (by omega) (by omega)
