/-! ===== worlds that grow; a version is kept ===== -/
/-- contents of what was there, and of what was made -/
def ext (S : tq_H) (c : tc_C) (L : List tq_O) : tc_C :=
  (fun k => if k < S.1 ∨ S.1 + L.length ≤ k then c.1 k else (ctn (hl S L)).1 k, fun k => if k < S.1 ∨ S.1 + L.length ≤ k then c.2.1 k else (ctn (hl S L)).2.1 k, fun k => if k < S.1 ∨ S.1 + L.length ≤ k then c.2.2.1 k else (ctn (hl S L)).2.2.1 k,
   fun k => if k < S.1 ∨ S.1 + L.length ≤ k then c.2.2.2.1 k else (ctn (hl S L)).2.2.2.1 k, fun k => if k < S.1 ∨ S.1 + L.length ≤ k then c.2.2.2.2 k else (ctn (hl S L)).2.2.2.2 k)
section GRO
variable {S S' : tq_H} {c c' c1 c2 d : tc_C} {L : List tq_O} {b q i k n : Nat} {ed : Option Nat}
theorem tc_ob_cg {o : tq_O} (h1 : c'.1 k = c.1 k) (h2 : c'.2.1 k = c.2.1 k) (h3 : c'.2.2.1 k = c.2.2.1 k) (h4 : c'.2.2.2.1 k = c.2.2.2.1 k) (h5 : c'.2.2.2.2 k = c.2.2.2.2 k) : tc_ob c' k o = tc_ob c k o := by
  rcases o with ⟨ci, fs⟩ | ⟨t, n, y⟩
  · show Sum.inl (ci, tc_fill (c'.2.2.1 k) (c'.2.2.2.1 k) 0 fs) = _
    rw [h3, h4]; rfl
  · rcases y with y | y | y | y | y
    · show Sum.inr (t, n, Sum.inl (c'.1 k)) = _
      rw [h1]; rfl
    · show Sum.inr (t, n, Sum.inr (Sum.inl (c'.2.1 k))) = _
      rw [h2]; rfl
    · rfl
    · rfl
    · show Sum.inr (t, n, Sum.inr (Sum.inr (Sum.inr (Sum.inr (c'.2.2.2.2 k))))) = _
      rw [h5]; rfl
theorem ext_mk (S : tq_H) (c : tc_C) (L : List tq_O) : tc_mk (hl S L) (ext S c L) = hl (tc_mk S c) L := by
  have hid := tc_id (hl S L)
  unfold tc_mk at hid ⊢
  have hf : ∀ k, tc_ob (ctn (hl S L)) k ((hl S L).2 k) = (hl S L).2 k := fun k => congrFun (congrArg Prod.snd hid) k
  show ((hl S L).1, fun k => tc_ob (ext S c L) k ((hl S L).2 k)) = (S.1 + L.length, fun k => if k < S.1 then tc_ob c k (S.2 k) else (L[k - S.1]?).getD (tc_ob c k (S.2 k)))
  congr 1
  funext k
  by_cases q : k < S.1 ∨ S.1 + L.length ≤ k
  · have e : tc_ob (ext S c L) k ((hl S L).2 k) = tc_ob c k ((hl S L).2 k) := tc_ob_cg (if_pos q) (if_pos q) (if_pos q) (if_pos q) (if_pos q)
    rw [e]
    rcases q with q | q
    · rw [hl_old q, if_pos q]
    · rw [if_neg (by omega), List.getElem?_eq_none (by omega)]
      show tc_ob c k (if k < S.1 then _ else _) = _
      rw [if_neg (by omega), List.getElem?_eq_none (by omega)]; rfl
  · have e : tc_ob (ext S c L) k ((hl S L).2 k) = tc_ob (ctn (hl S L)) k ((hl S L).2 k) := tc_ob_cg (if_neg q) (if_neg q) (if_neg q) (if_neg q) (if_neg q)
    rw [e, hf]
    show (if k < S.1 then _ else _) = _
    rw [if_neg (by omega), if_neg (by omega)]
    rw [List.getElem?_eq_getElem (show k - S.1 < L.length by omega)]; rfl
/-- what of a world's shape does not change -/
def Sam (S S' : tq_H) : Prop := ∀ q, 0 < q ∧ q < S.1 → S'.2 q = S.2 q
theorem hl_sam (S : tq_H) (L : List tq_O) : Sam S (hl S L) := fun _ h => hl_old h.2
theorem tc_Row.up {a : Nat} (h : tc_Row S q a n) (e : Sam S S') (h1 : 0 < q ∧ q < S.1) (h2 : 0 < a ∧ a < S.1) : tc_Row S' q a n := by
  obtain ⟨a1, a2, g, a3⟩ := h
  exact ⟨by rw [e q h1]; exact a1, a2, g, by rw [e a h2]; exact a3⟩
theorem tc_Set.up {a : Nat} (h : tc_Set S q a n) (e : Sam S S') (h1 : 0 < q ∧ q < S.1) (h2 : 0 < a ∧ a < S.1) : tc_Set S' q a n := by
  obtain ⟨a1, a2, g, a3⟩ := h
  exact ⟨by rw [e q h1]; exact a1, a2, g, by rw [e a h2]; exact a3⟩
theorem tc_Tree.up (h : tc_Tree S b) (e : Sam S S') (hb : 0 < b ∧ b + 40 ≤ S.1) : tc_Tree S' b := by
  obtain ⟨a0, a1, r1, r2, r3, r4, r5, s1, s2, s3, s4, s5, r6, r7, r8, r9, r10, r11, r12, r13, r14⟩ := h
  exact ⟨by rw [e _ (by omega)]; exact a0, by rw [e _ (by omega)]; exact a1, r1.up e (by omega) (by omega), r2.up e (by omega) (by omega), r3.up e (by omega) (by omega), r4.up e (by omega) (by omega), r5.up e (by omega) (by omega), s1.up e (by omega) (by omega), s2.up e (by omega) (by omega), s3.up e (by omega) (by omega), s4.up e (by omega) (by omega), s5.up e (by omega) (by omega),
    r6.up e (by omega) (by omega), r7.up e (by omega) (by omega), r8.up e (by omega) (by omega), r9.up e (by omega) (by omega), r10.up e (by omega) (by omega), r11.up e (by omega) (by omega), r12.up e (by omega) (by omega), r13.up e (by omega) (by omega), r14.up e (by omega) (by omega)⟩
theorem tc_Upd.up (h : tc_Upd S b) (e : Sam S S') (hb : 0 < b ∧ b + 17 ≤ S.1) : tc_Upd S' b := by
  obtain ⟨a0, r1, r2, r3, r4, r5, r6, r7, r8⟩ := h
  exact ⟨by rw [e _ (by omega)]; exact a0, r1.up e (by omega) (by omega), r2.up e (by omega) (by omega), r3.up e (by omega) (by omega), r4.up e (by omega) (by omega), r5.up e (by omega) (by omega), r6.up e (by omega) (by omega), r7.up e (by omega) (by omega), r8.up e (by omega) (by omega)⟩
theorem tc_Pth.up (h : tc_Pth S b) (e : Sam S S') (hb : 0 < b ∧ b + 19 ≤ S.1) : tc_Pth S' b := by
  obtain ⟨a0, r1, r2, r3, r4, r5, r6, r7, r8, r9⟩ := h
  exact ⟨by rw [e _ (by omega)]; exact a0, r1.up e (by omega) (by omega), r2.up e (by omega) (by omega), r3.up e (by omega) (by omega), r4.up e (by omega) (by omega), r5.up e (by omega) (by omega), r6.up e (by omega) (by omega), r7.up e (by omega) (by omega), r8.up e (by omega) (by omega), r9.up e (by omega) (by omega)⟩
theorem tc_Fnd.up (h : tc_Fnd S b) (e : Sam S S') (hb : 0 < b ∧ b + 7 ≤ S.1) : tc_Fnd S' b := by
  obtain ⟨a0, s1, s2, r1⟩ := h
  exact ⟨by rw [e _ (by omega)]; exact a0, s1.up e (by omega) (by omega), s2.up e (by omega) (by omega), r1.up e (by omega) (by omega)⟩
theorem tc_Sch.up (h : tc_Sch S b) (e : Sam S S') (hb : 0 < b ∧ b + 17 ≤ S.1) : tc_Sch S' b := by
  obtain ⟨a0, r1, r2, r3, r4, r5, r6, r7, r8⟩ := h
  exact ⟨by rw [e _ (by omega)]; exact a0, r1.up e (by omega) (by omega), r2.up e (by omega) (by omega), r3.up e (by omega) (by omega), r4.up e (by omega) (by omega), r5.up e (by omega) (by omega), r6.up e (by omega) (by omega), r7.up e (by omega) (by omega), r8.up e (by omega) (by omega)⟩
theorem tc_Edi.up (h : tc_Edi S b) (e : Sam S S') (hb : 0 < b ∧ b + 15 ≤ S.1) : tc_Edi S' b := by
  obtain ⟨a0, r1, r2, r3, r4, r5, r6, r7⟩ := h
  exact ⟨by rw [e _ (by omega)]; exact a0, r1.up e (by omega) (by omega), r2.up e (by omega) (by omega), r3.up e (by omega) (by omega), r4.up e (by omega) (by omega), r5.up e (by omega) (by omega), r6.up e (by omega) (by omega), r7.up e (by omega) (by omega)⟩
theorem tc_Tq.up {ed' : Option Nat} (h : tc_Tq S ed) (e : Sam S S') (hb : 206 ≤ S.1) (h0 : S'.2 0 = .inl (10, [.ref 1, .ref 41, .ref 81, .ref 98, .ref 117, .ref 124, .ref 131, .ref 148, .ref 149, .ref 151, .ref 153, edV ed', .int 0, .int 0, .int 0, .long 0, .long 0, .int 0, .int 0])) : tc_Tq S' ed' := by
  obtain ⟨a0, ⟨g, a1⟩, r1, r2, s1, g2, a2⟩ := h
  exact ⟨h0, ⟨g, by rw [e _ (by omega)]; exact a1⟩, r1.up e (by omega) (by omega), r2.up e (by omega) (by omega), s1.up e (by omega) (by omega), g2, by rw [e _ (by omega)]; exact a2⟩
theorem tc_Mod.up (h : tc_Mod S b) (e : Sam S S') (hb : 206 ≤ S.1) : tc_Mod S' b := by
  have e' : ∀ q, 0 < q ∧ q < 206 → S'.2 q = S.2 q := fun q hq => e q (by omega)
  unfold tc_Mod at h ⊢
  rw [e' 155 (by decide), e' 156 (by decide), e' 157 (by decide), e' 158 (by decide), e' 159 (by decide), e' 160 (by decide), e' 161 (by decide), e' 162 (by decide), e' 163 (by decide), e' 164 (by decide), e' 165 (by decide), e' 166 (by decide), e' 167 (by decide), e' 168 (by decide), e' 169 (by decide), e' 170 (by decide), e' 171 (by decide), e' 172 (by decide), e' 173 (by decide), e' 174 (by decide), e' 175 (by decide), e' 176 (by decide), e' 177 (by decide), e' 178 (by decide), e' 179 (by decide), e' 180 (by decide), e' 181 (by decide), e' 182 (by decide), e' 183 (by decide), e' 184 (by decide), e' 185 (by decide), e' 186 (by decide), e' 187 (by decide), e' 188 (by decide), e' 189 (by decide), e' 190 (by decide), e' 191 (by decide), e' 192 (by decide), e' 193 (by decide), e' 194 (by decide), e' 195 (by decide), e' 196 (by decide), e' 197 (by decide), e' 198 (by decide), e' 199 (by decide), e' 200 (by decide), e' 201 (by decide), e' 202 (by decide), e' 203 (by decide), e' 204 (by decide)]
  exact h
end GRO
