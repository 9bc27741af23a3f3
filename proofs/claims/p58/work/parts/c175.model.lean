/-! ===== the model at the start ===== -/
def rest11 (t : Nat) (w98 : tq_H) : Option tq_H :=
  (tq_pf w98 t 11 1 (.int (1 : Int32))).bind fun w99 =>
  (tq_gr w99 t 11 9).bind fun k100 =>
  (tq_sz w99 k100 (0 : Int32) (1 : Int32)).bind fun w101 =>
  (tq_gr w101 t 11 2).bind fun k102 =>
  (tq_si w101 k102 (0 : Int32) (0 : Int32)).bind fun w103 =>
  (tq_gr w103 t 11 4).bind fun k104 =>
  (tq_si w103 k104 (0 : Int32) (-1 : Int32)).bind fun w105 =>
  (tq_gr w105 t 11 5).bind fun k106 =>
  (tq_si w105 k106 (0 : Int32) (-1 : Int32)).bind fun w107 =>
  (tq_gr w107 t 11 6).bind fun k108 =>
  (tq_si w107 k108 (0 : Int32) (-1 : Int32)).bind fun w109 =>
  (tq_gr w109 t 11 8).bind fun k110 =>
  (tq_si w109 k110 (0 : Int32) (16 : Int32)).bind fun w111 =>
  (tq_loop (f_X11_init_b456 t) tq_N ((0 : Int32), w111)).bind fun o117 =>
  (tq_is o117 t 11).bind fun _ =>
  (f_X11_arrange t o117).bind fun v118 =>
  some v118
def mdE : List tq_O := [
  .inl (11, [.int 0, .int 0, .ref 156, .ref 157, .ref 158, .ref 159, .ref 160, .ref 161, .ref 162, .ref 163, .int 0, .int 0, .ref 164, .ref 165, .ref 166, .int 0, .ref 167, .ref 168, .ref 169, .ref 170, .ref 171, .ref 172, .ref 173, .ref 174, .int 0, .ref 175, .ref 176, .ref 177, .ref 178, .ref 179, .ref 180, .long 0, .int 0, .int 0, .ref 181, .ref 182, .ref 183, .ref 184, .ref 185, .ref 186, .ref 187, .ref 188, .int 0, .ref 189, .ref 190, .int 0, .ref 191, .ref 192, .ref 193, .int 0, .ref 194, .ref 195, .ref 196, .ref 197, .ref 198, .ref 199, .ref 200, .ref 201, .ref 202, .ref 203, .ref 204]),
  .inr (0, (60, .inl (fun _ => 0))),
  .inr (0, (60, .inl (fun _ => 0))),
  .inr (0, (60, .inl (fun _ => 0))),
  .inr (0, (60, .inl (fun _ => 0))),
  .inr (0, (60, .inl (fun _ => 0))),
  .inr (0, (60, .inl (fun _ => 0))),
  .inr (0, (60, .inl (fun _ => 0))),
  .inr (1, (60, .inl (fun _ => 0))),
  .inr (0, (60, .inl (fun _ => 0))),
  .inr (0, (60, .inl (fun _ => 0))),
  .inr (0, (64, .inl (fun _ => 0))),
  .inr (0, (140, .inl (fun _ => 0))),
  .inr (0, (60, .inl (fun _ => 0))),
  .inr (0, (60, .inl (fun _ => 0))),
  .inr (0, (60, .inl (fun _ => 0))),
  .inr (0, (60, .inl (fun _ => 0))),
  .inr (0, (60, .inl (fun _ => 0))),
  .inr (1, (60, .inl (fun _ => 0))),
  .inr (1, (60, .inl (fun _ => 0))),
  .inr (0, (20, .inl (fun _ => 0))),
  .inr (0, (300, .inl (fun _ => 0))),
  .inr (0, (100, .inl (fun _ => 0))),
  .inr (0, (800, .inl (fun _ => 0))),
  .inr (2, (1200, .inr (.inl (fun _ => 0)))),
  .inr (2, (300, .inr (.inl (fun _ => 0)))),
  .inr (0, (3, .inl (fun _ => 0))),
  .inr (0, (60, .inl (fun _ => 0))),
  .inr (0, (6, .inl (fun _ => 0))),
  .inr (1, (6, .inl (fun _ => 0))),
  .inr (0, (48, .inl (fun _ => 0))),
  .inr (0, (6, .inl (fun _ => 0))),
  .inr (0, (144, .inl (fun _ => 0))),
  .inr (0, (60, .inl (fun _ => 0))),
  .inr (0, (5120, .inl (fun _ => 0))),
  .inr (1, (8, .inl (fun _ => 0))),
  .inr (0, (5, .inl (fun _ => 0))),
  .inr (0, (5, .inl (fun _ => 0))),
  .inr (2, (5, .inr (.inl (fun _ => 0)))),
  .inr (1, (360, .inl (fun _ => 0))),
  .inr (0, (360, .inl (fun _ => 0))),
  .inr (0, (360, .inl (fun _ => 0))),
  .inr (0, (360, .inl (fun _ => 0))),
  .inr (0, (360, .inl (fun _ => 0))),
  .inr (0, (360, .inl (fun _ => 0))),
  .inr (0, (2, .inl (fun _ => 0))),
  .inr (0, (122, .inl (fun _ => 0))),
  .inr (0, (122, .inl (fun _ => 0))),
  .inr (0, (3721, .inl (fun _ => 0))),
  .inr (0, (3721, .inl (fun _ => 0)))]
section MDL
variable {L : List tq_O} {i k z : Nat} {o : tq_O}
theorem md_made (K : tq_H) (hK : K.1 = 155) : f_X11_init K.1 (hl K [.inl (11, [.int 0, .int 0, .null, .null, .null, .null, .null, .null, .null, .null, .int 0, .int 0, .null, .null, .null, .int 0, .null, .null, .null, .null, .null, .null, .null, .null, .int 0, .null, .null, .null, .null, .null, .null, .long 0, .int 0, .int 0, .null, .null, .null, .null, .null, .null, .null, .null, .int 0, .null, .null, .int 0, .null, .null, .null, .int 0, .null, .null, .null, .null, .null, .null, .null, .null, .null, .null, .null])]) = rest11 K.1 (hl K mdE) := by
  unfold f_X11_init
  rw [st_arr 156 (by simp) (by simp [hK]), st_arr 157 (by simp) (by simp [hK]), st_arr 158 (by simp) (by simp [hK]), st_arr 159 (by simp) (by simp [hK]), st_arr 160 (by simp) (by simp [hK]), st_arr 161 (by simp) (by simp [hK]), st_arr 162 (by simp) (by simp [hK])]
  rw [st_arr 163 (by simp) (by simp [hK]), st_arr 164 (by simp) (by simp [hK]), st_arr 165 (by simp) (by simp [hK]), st_arr 166 (by simp) (by simp [hK]), st_arr 167 (by simp) (by simp [hK]), st_arr 168 (by simp) (by simp [hK]), st_arr 169 (by simp) (by simp [hK])]
  rw [st_arr 170 (by simp) (by simp [hK]), st_arr 171 (by simp) (by simp [hK]), st_arr 172 (by simp) (by simp [hK]), st_arr 173 (by simp) (by simp [hK]), st_arr 174 (by simp) (by simp [hK]), st_arr 175 (by simp) (by simp [hK]), st_arr 176 (by simp) (by simp [hK])]
  rw [st_arr 177 (by simp) (by simp [hK]), st_arr 178 (by simp) (by simp [hK]), st_arr 179 (by simp) (by simp [hK]), st_arr 180 (by simp) (by simp [hK]), st_arr 181 (by simp) (by simp [hK]), st_arr 182 (by simp) (by simp [hK]), st_arr 183 (by simp) (by simp [hK])]
  rw [st_arr 184 (by simp) (by simp [hK]), st_arr 185 (by simp) (by simp [hK]), st_arr 186 (by simp) (by simp [hK]), st_arr 187 (by simp) (by simp [hK]), st_arr 188 (by simp) (by simp [hK]), st_arr 189 (by simp) (by simp [hK]), st_arr 190 (by simp) (by simp [hK])]
  rw [st_arr 191 (by simp) (by simp [hK]), st_arr 192 (by simp) (by simp [hK]), st_arr 193 (by simp) (by simp [hK]), st_arr 194 (by simp) (by simp [hK]), st_arr 195 (by simp) (by simp [hK]), st_arr 196 (by simp) (by simp [hK]), st_arr 197 (by simp) (by simp [hK])]
  rw [st_arr 198 (by simp) (by simp [hK]), st_arr 199 (by simp) (by simp [hK]), st_arr 200 (by simp) (by simp [hK]), st_arr 201 (by simp) (by simp [hK]), st_arr 202 (by simp) (by simp [hK]), st_arr 203 (by simp) (by simp [hK]), st_arr 204 (by simp) (by simp [hK])]
  rfl
theorem mdE_len : mdE.length = 50 := by simp only [mdE, List.length_cons, List.length_nil]
theorem at1 (h : mdE[i]? = some o) (hk : k = 155 + i) : (hl S0 (mdE ++ L)).2 k = o := by
  have hi : i < mdE.length := by
    rcases Nat.lt_or_ge i mdE.length with w | w
    · exact w
    · rw [List.getElem?_eq_none w] at h; cases h
  have e : (hl S0 (mdE ++ L)).2 (S0.1 + i) = o := hl_at (by rw [List.getElem?_append_left hi]; exact h)
  rw [S0_1] at e
  rw [hk]; exact e
theorem S1_m (L : List tq_O) : tc_Mod (hl S0 (mdE ++ L)) z := ⟨at1 (i := 0) rfl rfl, ⟨_, at1 (i := 1) rfl rfl⟩, ⟨_, at1 (i := 2) rfl rfl⟩, ⟨_, at1 (i := 3) rfl rfl⟩, ⟨_, at1 (i := 4) rfl rfl⟩, ⟨_, at1 (i := 5) rfl rfl⟩, ⟨_, at1 (i := 6) rfl rfl⟩, ⟨_, at1 (i := 7) rfl rfl⟩, ⟨_, at1 (i := 8) rfl rfl⟩, ⟨_, at1 (i := 9) rfl rfl⟩, ⟨_, at1 (i := 10) rfl rfl⟩, ⟨_, at1 (i := 11) rfl rfl⟩, ⟨_, at1 (i := 12) rfl rfl⟩, ⟨_, at1 (i := 13) rfl rfl⟩, ⟨_, at1 (i := 14) rfl rfl⟩, ⟨_, at1 (i := 15) rfl rfl⟩, ⟨_, at1 (i := 16) rfl rfl⟩, ⟨_, at1 (i := 17) rfl rfl⟩, ⟨_, at1 (i := 18) rfl rfl⟩, ⟨_, at1 (i := 19) rfl rfl⟩, ⟨_, at1 (i := 20) rfl rfl⟩, ⟨_, at1 (i := 21) rfl rfl⟩, ⟨_, at1 (i := 22) rfl rfl⟩, ⟨_, at1 (i := 23) rfl rfl⟩, ⟨_, at1 (i := 24) rfl rfl⟩, ⟨_, at1 (i := 25) rfl rfl⟩, ⟨_, at1 (i := 26) rfl rfl⟩, ⟨_, at1 (i := 27) rfl rfl⟩, ⟨_, at1 (i := 28) rfl rfl⟩, ⟨_, at1 (i := 29) rfl rfl⟩, ⟨_, at1 (i := 30) rfl rfl⟩, ⟨_, at1 (i := 31) rfl rfl⟩, ⟨_, at1 (i := 32) rfl rfl⟩, ⟨_, at1 (i := 33) rfl rfl⟩, ⟨_, at1 (i := 34) rfl rfl⟩, ⟨_, at1 (i := 35) rfl rfl⟩, ⟨_, at1 (i := 36) rfl rfl⟩, ⟨_, at1 (i := 37) rfl rfl⟩, ⟨_, at1 (i := 38) rfl rfl⟩, ⟨_, at1 (i := 39) rfl rfl⟩, ⟨_, at1 (i := 40) rfl rfl⟩, ⟨_, at1 (i := 41) rfl rfl⟩, ⟨_, at1 (i := 42) rfl rfl⟩, ⟨_, at1 (i := 43) rfl rfl⟩, ⟨_, at1 (i := 44) rfl rfl⟩, ⟨_, at1 (i := 45) rfl rfl⟩, ⟨_, at1 (i := 46) rfl rfl⟩, ⟨_, at1 (i := 47) rfl rfl⟩, ⟨_, at1 (i := 48) rfl rfl⟩, ⟨_, at1 (i := 49) rfl rfl⟩⟩
end MDL
