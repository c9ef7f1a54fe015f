theorem lg_cmp_self (r : Int64) : lg_cmp r r = 0 := by
  unfold lg_cmp
  simp
set_option maxHeartbeats 4000000 in
set_option maxRecDepth 100000 in
theorem law_c0 {p : Program} {l : Launch} {e : Env} {s : State} {m : MethodId} {b L : Nat} {xs : Nat → Int32} {below : List Frame} {meth : Method} {c : Code} {H : Heap} {locs : List Loc} {cells slots : Nat} {Q : State → Prop} {D : va_G} {cs : CS} {aC aM : Nat → Nat → Nat} {AC AM : Nat → Prop} {S T : St} {ls : Array Slot} {i : Nat} (X : LCx p m c s b L xs D cs AC AM) (hR : Rel S T) (hW : WW D cs aC aM AC AM S T H) (hS : va_S (AZ s) s.heap H locs) (hl : lv_has ls 4 (lvL b aC aM i)) (hi : i + 5 ≤ L) (hc : cells ≤ 600000 ∧ slots ≤ 7302250) (K : ∀ (S1 T1 : St) (H1 : Heap) (locs1 : List Loc), Rel S1 T1 → WW D cs aC aM AC AM S1 T1 H1 → va_S (AZ s) s.heap H1 locs1 → W p l e room_1 s m #[Value.ref b] below meth c H1 locs1 cells slots Q (F0 m 830 ls [])) : W p l e room_1 s m #[Value.ref b] below meth c H locs cells slots Q (F0 m 140 ls []) := by
  obtain ⟨r, S1, T1, h1, h2, hR1⟩ := s_input hR 
  refine lv_aload_n X.1.1 X.1.2.1 dL_law_140 rfl (lv_at hl 1 rfl) ?_
  refine lx_ci (rest := []) X hW hS [] (c_X8_input l (D, cs, aC) AC  S (r, S1) h1) (cwV 0 X.1.2.2.2.2 gL_law_X8_input rfl rfl rfl (by decide +kernel) ⟨Nat.le_of_ble_eq_true rfl, Nat.le_of_ble_eq_true rfl⟩) rfl hl.1 rfl (Nat.le_of_ble_eq_true rfl) dL_law_141 hc (fun H locs hW hS => ?_)
  refine lv_aload_n X.1.1 X.1.2.1 dL_law_144 rfl (lv_at hl 2 rfl) ?_
  refine lx_mi (rest := [.int r]) X hW hS [] (c_X9_input l (D, cs, aM) AM  T (r, T1) h2) (cwV 0 X.1.2.2.2.2 gL_law_X9_input rfl rfl rfl (by decide +kernel) ⟨Nat.le_of_ble_eq_true rfl, Nat.le_of_ble_eq_true rfl⟩) rfl hl.1 rfl (Nat.le_of_ble_eq_true rfl) dL_law_145 hc (fun H locs hW hS => ?_)
  exact lv_icmp_eq (tgt := 830) X.1.1 X.1.2.1 dL_law_148 (by decide) (fun _ => K S1 T1 H locs hR1 hW hS) (fun q => absurd rfl q)
set_option maxHeartbeats 4000000 in
set_option maxRecDepth 100000 in
theorem law_c1 {p : Program} {l : Launch} {e : Env} {s : State} {m : MethodId} {b L : Nat} {xs : Nat → Int32} {below : List Frame} {meth : Method} {c : Code} {H : Heap} {locs : List Loc} {cells slots : Nat} {Q : State → Prop} {D : va_G} {cs : CS} {aC aM : Nat → Nat → Nat} {AC AM : Nat → Prop} {S T : St} {ls : Array Slot} {i : Nat} (X : LCx p m c s b L xs D cs AC AM) (hR : Rel S T) (hW : WW D cs aC aM AC AM S T H) (hS : va_S (AZ s) s.heap H locs) (hl : lv_has ls 4 (lvL b aC aM i)) (hi : i + 5 ≤ L) (hc : cells ≤ 600000 ∧ slots ≤ 7302250) (K : ∀ (S1 T1 : St) (H1 : Heap) (locs1 : List Loc), Rel S1 T1 → WW D cs aC aM AC AM S1 T1 H1 → va_S (AZ s) s.heap H1 locs1 → W p l e room_1 s m #[Value.ref b] below meth c H1 locs1 cells slots Q (F0 m 830 ls [])) : W p l e room_1 s m #[Value.ref b] below meth c H locs cells slots Q (F0 m 153 ls []) := by
  obtain ⟨r, S1, T1, h1, h2, hR1⟩ := s_gate hR (xs (i + 1)) (xs (i + 2)) (xs (i + 3)) (xs (i + 4))
  refine lv_aload_n X.1.1 X.1.2.1 dL_law_153 rfl (lv_at hl 1 rfl) ?_
  refine lx_arg X hS hl hi 1 (by decide) (by decide) dL_law_154 dL_law_155 dL_law_156 dL_law_157 dL_law_158 ?_
  refine lx_arg X hS hl hi 2 (by decide) (by decide) dL_law_159 dL_law_160 dL_law_161 dL_law_162 dL_law_163 ?_
  refine lx_arg X hS hl hi 3 (by decide) (by decide) dL_law_164 dL_law_165 dL_law_166 dL_law_167 dL_law_168 ?_
  refine lx_arg X hS hl hi 4 (by decide) (by decide) dL_law_169 dL_law_170 dL_law_171 dL_law_172 dL_law_173 ?_
  refine lx_ci (rest := []) X hW hS [.int (xs (i + 1)), .int (xs (i + 2)), .int (xs (i + 3)), .int (xs (i + 4))] (c_X8_gate l (D, cs, aC) AC (xs (i + 1)) (xs (i + 2)) (xs (i + 3)) (xs (i + 4)) S (r, S1) h1) (cwV 4 X.1.2.2.2.2 gL_law_X8_gate rfl rfl rfl (by decide +kernel) ⟨Nat.le_of_ble_eq_true rfl, Nat.le_of_ble_eq_true rfl⟩) rfl hl.1 rfl (Nat.le_of_ble_eq_true rfl) dL_law_174 hc (fun H locs hW hS => ?_)
  refine lv_aload_n X.1.1 X.1.2.1 dL_law_177 rfl (lv_at hl 2 rfl) ?_
  refine lx_arg X hS hl hi 1 (by decide) (by decide) dL_law_178 dL_law_179 dL_law_180 dL_law_181 dL_law_182 ?_
  refine lx_arg X hS hl hi 2 (by decide) (by decide) dL_law_183 dL_law_184 dL_law_185 dL_law_186 dL_law_187 ?_
  refine lx_arg X hS hl hi 3 (by decide) (by decide) dL_law_188 dL_law_189 dL_law_190 dL_law_191 dL_law_192 ?_
  refine lx_arg X hS hl hi 4 (by decide) (by decide) dL_law_193 dL_law_194 dL_law_195 dL_law_196 dL_law_197 ?_
  refine lx_mi (rest := [.int r]) X hW hS [.int (xs (i + 1)), .int (xs (i + 2)), .int (xs (i + 3)), .int (xs (i + 4))] (c_X9_gate l (D, cs, aM) AM (xs (i + 1)) (xs (i + 2)) (xs (i + 3)) (xs (i + 4)) T (r, T1) h2) (cwV 4 X.1.2.2.2.2 gL_law_X9_gate rfl rfl rfl (by decide +kernel) ⟨Nat.le_of_ble_eq_true rfl, Nat.le_of_ble_eq_true rfl⟩) rfl hl.1 rfl (Nat.le_of_ble_eq_true rfl) dL_law_198 hc (fun H locs hW hS => ?_)
  exact lv_icmp_eq (tgt := 830) X.1.1 X.1.2.1 dL_law_201 (by decide) (fun _ => K S1 T1 H locs hR1 hW hS) (fun q => absurd rfl q)
set_option maxHeartbeats 4000000 in
set_option maxRecDepth 100000 in
theorem law_c2 {p : Program} {l : Launch} {e : Env} {s : State} {m : MethodId} {b L : Nat} {xs : Nat → Int32} {below : List Frame} {meth : Method} {c : Code} {H : Heap} {locs : List Loc} {cells slots : Nat} {Q : State → Prop} {D : va_G} {cs : CS} {aC aM : Nat → Nat → Nat} {AC AM : Nat → Prop} {S T : St} {ls : Array Slot} {i : Nat} (X : LCx p m c s b L xs D cs AC AM) (hR : Rel S T) (hW : WW D cs aC aM AC AM S T H) (hS : va_S (AZ s) s.heap H locs) (hl : lv_has ls 4 (lvL b aC aM i)) (hi : i + 5 ≤ L) (hc : cells ≤ 600000 ∧ slots ≤ 7302250) (K : ∀ (S1 T1 : St) (H1 : Heap) (locs1 : List Loc), Rel S1 T1 → WW D cs aC aM AC AM S1 T1 H1 → va_S (AZ s) s.heap H1 locs1 → W p l e room_1 s m #[Value.ref b] below meth c H1 locs1 cells slots Q (F0 m 830 ls [])) : W p l e room_1 s m #[Value.ref b] below meth c H locs cells slots Q (F0 m 206 ls []) := by
  obtain ⟨r, S1, T1, h1, h2, hR1⟩ := s_output hR (xs (i + 1))
  refine lv_aload_n X.1.1 X.1.2.1 dL_law_206 rfl (lv_at hl 1 rfl) ?_
  refine lx_arg X hS hl hi 1 (by decide) (by decide) dL_law_207 dL_law_208 dL_law_209 dL_law_210 dL_law_211 ?_
  refine lx_ci (rest := []) X hW hS [.int (xs (i + 1))] (c_X8_output l (D, cs, aC) AC (xs (i + 1)) S (r, S1) h1) (cwV 1 X.1.2.2.2.2 gL_law_X8_output rfl rfl rfl (by decide +kernel) ⟨Nat.le_of_ble_eq_true rfl, Nat.le_of_ble_eq_true rfl⟩) rfl hl.1 rfl (Nat.le_of_ble_eq_true rfl) dL_law_212 hc (fun H locs hW hS => ?_)
  refine lv_aload_n X.1.1 X.1.2.1 dL_law_215 rfl (lv_at hl 2 rfl) ?_
  refine lx_arg X hS hl hi 1 (by decide) (by decide) dL_law_216 dL_law_217 dL_law_218 dL_law_219 dL_law_220 ?_
  refine lx_mi (rest := [.int r]) X hW hS [.int (xs (i + 1))] (c_X9_output l (D, cs, aM) AM (xs (i + 1)) T (r, T1) h2) (cwV 1 X.1.2.2.2.2 gL_law_X9_output rfl rfl rfl (by decide +kernel) ⟨Nat.le_of_ble_eq_true rfl, Nat.le_of_ble_eq_true rfl⟩) rfl hl.1 rfl (Nat.le_of_ble_eq_true rfl) dL_law_221 hc (fun H locs hW hS => ?_)
  exact lv_icmp_eq (tgt := 830) X.1.1 X.1.2.1 dL_law_224 (by decide) (fun _ => K S1 T1 H locs hR1 hW hS) (fun q => absurd rfl q)
set_option maxHeartbeats 4000000 in
set_option maxRecDepth 100000 in
theorem law_c3 {p : Program} {l : Launch} {e : Env} {s : State} {m : MethodId} {b L : Nat} {xs : Nat → Int32} {below : List Frame} {meth : Method} {c : Code} {H : Heap} {locs : List Loc} {cells slots : Nat} {Q : State → Prop} {D : va_G} {cs : CS} {aC aM : Nat → Nat → Nat} {AC AM : Nat → Prop} {S T : St} {ls : Array Slot} {i : Nat} (X : LCx p m c s b L xs D cs AC AM) (hR : Rel S T) (hW : WW D cs aC aM AC AM S T H) (hS : va_S (AZ s) s.heap H locs) (hl : lv_has ls 4 (lvL b aC aM i)) (hi : i + 5 ≤ L) (hc : cells ≤ 600000 ∧ slots ≤ 7302250) (K : ∀ (S1 T1 : St) (H1 : Heap) (locs1 : List Loc), Rel S1 T1 → WW D cs aC aM AC AM S1 T1 H1 → va_S (AZ s) s.heap H1 locs1 → W p l e room_1 s m #[Value.ref b] below meth c H1 locs1 cells slots Q (F0 m 830 ls [])) : W p l e room_1 s m #[Value.ref b] below meth c H locs cells slots Q (F0 m 229 ls []) := by
  obtain ⟨r, S1, T1, h1, h2, hR1⟩ := s_type hR (lwd (xs (i + 1)) (xs (i + 2))) (xs (i + 3))
  refine lv_aload_n X.1.1 X.1.2.1 dL_law_229 rfl (lv_at hl 1 rfl) ?_
  refine lx_long X hS hl hi dL_law_230 dL_law_231 dL_law_232 dL_law_233 dL_law_234 dL_law_235 dL_law_236 dL_law_238 dL_law_239 dL_law_240 dL_law_241 dL_law_242 dL_law_243 dL_law_244 dL_law_245 dL_law_248 dL_law_249 (by decide +kernel) ?_
  refine lx_arg X hS hl hi 3 (by decide) (by decide) dL_law_250 dL_law_251 dL_law_252 dL_law_253 dL_law_254 ?_
  refine lx_ci (rest := []) X hW hS [.long (lwd (xs (i + 1)) (xs (i + 2))), .int (xs (i + 3))] (c_X8_type l (D, cs, aC) AC (lwd (xs (i + 1)) (xs (i + 2))) (xs (i + 3)) S (r, S1) h1) (cwV 2 X.1.2.2.2.2 gL_law_X8_type rfl rfl rfl (by decide +kernel) ⟨Nat.le_of_ble_eq_true rfl, Nat.le_of_ble_eq_true rfl⟩) rfl hl.1 rfl (Nat.le_of_ble_eq_true rfl) dL_law_255 hc (fun H locs hW hS => ?_)
  refine lv_aload_n X.1.1 X.1.2.1 dL_law_258 rfl (lv_at hl 2 rfl) ?_
  refine lx_long X hS hl hi dL_law_259 dL_law_260 dL_law_261 dL_law_262 dL_law_263 dL_law_264 dL_law_265 dL_law_267 dL_law_268 dL_law_269 dL_law_270 dL_law_271 dL_law_272 dL_law_273 dL_law_274 dL_law_277 dL_law_278 (by decide +kernel) ?_
  refine lx_arg X hS hl hi 3 (by decide) (by decide) dL_law_279 dL_law_280 dL_law_281 dL_law_282 dL_law_283 ?_
  refine lx_mi (rest := [.int r]) X hW hS [.long (lwd (xs (i + 1)) (xs (i + 2))), .int (xs (i + 3))] (c_X9_type l (D, cs, aM) AM (lwd (xs (i + 1)) (xs (i + 2))) (xs (i + 3)) T (r, T1) h2) (cwV 2 X.1.2.2.2.2 gL_law_X9_type rfl rfl rfl (by decide +kernel) ⟨Nat.le_of_ble_eq_true rfl, Nat.le_of_ble_eq_true rfl⟩) rfl hl.1 rfl (Nat.le_of_ble_eq_true rfl) dL_law_284 hc (fun H locs hW hS => ?_)
  exact lv_icmp_eq (tgt := 830) X.1.1 X.1.2.1 dL_law_287 (by decide) (fun _ => K S1 T1 H locs hR1 hW hS) (fun q => absurd rfl q)
set_option maxHeartbeats 4000000 in
set_option maxRecDepth 100000 in
theorem law_c4 {p : Program} {l : Launch} {e : Env} {s : State} {m : MethodId} {b L : Nat} {xs : Nat → Int32} {below : List Frame} {meth : Method} {c : Code} {H : Heap} {locs : List Loc} {cells slots : Nat} {Q : State → Prop} {D : va_G} {cs : CS} {aC aM : Nat → Nat → Nat} {AC AM : Nat → Prop} {S T : St} {ls : Array Slot} {i : Nat} (X : LCx p m c s b L xs D cs AC AM) (hR : Rel S T) (hW : WW D cs aC aM AC AM S T H) (hS : va_S (AZ s) s.heap H locs) (hl : lv_has ls 4 (lvL b aC aM i)) (hi : i + 5 ≤ L) (hc : cells ≤ 600000 ∧ slots ≤ 7302250) (K : ∀ (S1 T1 : St) (H1 : Heap) (locs1 : List Loc), Rel S1 T1 → WW D cs aC aM AC AM S1 T1 H1 → va_S (AZ s) s.heap H1 locs1 → W p l e room_1 s m #[Value.ref b] below meth c H1 locs1 cells slots Q (F0 m 830 ls [])) : W p l e room_1 s m #[Value.ref b] below meth c H locs cells slots Q (F0 m 292 ls []) := by
  obtain ⟨r, S1, T1, h1, h2, hR1⟩ := s_cell hR 
  refine lv_aload_n X.1.1 X.1.2.1 dL_law_292 rfl (lv_at hl 1 rfl) ?_
  refine lx_ci (rest := []) X hW hS [] (c_X8_cell l (D, cs, aC) AC  S (r, S1) h1) (cwV 0 X.1.2.2.2.2 gL_law_X8_cell rfl rfl rfl (by decide +kernel) ⟨Nat.le_of_ble_eq_true rfl, Nat.le_of_ble_eq_true rfl⟩) rfl hl.1 rfl (Nat.le_of_ble_eq_true rfl) dL_law_293 hc (fun H locs hW hS => ?_)
  refine lv_aload_n X.1.1 X.1.2.1 dL_law_296 rfl (lv_at hl 2 rfl) ?_
  refine lx_mi (rest := [.int r]) X hW hS [] (c_X9_cell l (D, cs, aM) AM  T (r, T1) h2) (cwV 0 X.1.2.2.2.2 gL_law_X9_cell rfl rfl rfl (by decide +kernel) ⟨Nat.le_of_ble_eq_true rfl, Nat.le_of_ble_eq_true rfl⟩) rfl hl.1 rfl (Nat.le_of_ble_eq_true rfl) dL_law_297 hc (fun H locs hW hS => ?_)
  exact lv_icmp_eq (tgt := 830) X.1.1 X.1.2.1 dL_law_300 (by decide) (fun _ => K S1 T1 H locs hR1 hW hS) (fun q => absurd rfl q)
set_option maxHeartbeats 4000000 in
set_option maxRecDepth 100000 in
theorem law_c5 {p : Program} {l : Launch} {e : Env} {s : State} {m : MethodId} {b L : Nat} {xs : Nat → Int32} {below : List Frame} {meth : Method} {c : Code} {H : Heap} {locs : List Loc} {cells slots : Nat} {Q : State → Prop} {D : va_G} {cs : CS} {aC aM : Nat → Nat → Nat} {AC AM : Nat → Prop} {S T : St} {ls : Array Slot} {i : Nat} (X : LCx p m c s b L xs D cs AC AM) (hR : Rel S T) (hW : WW D cs aC aM AC AM S T H) (hS : va_S (AZ s) s.heap H locs) (hl : lv_has ls 4 (lvL b aC aM i)) (hi : i + 5 ≤ L) (hc : cells ≤ 600000 ∧ slots ≤ 7302250) (K : ∀ (S1 T1 : St) (H1 : Heap) (locs1 : List Loc), Rel S1 T1 → WW D cs aC aM AC AM S1 T1 H1 → va_S (AZ s) s.heap H1 locs1 → W p l e room_1 s m #[Value.ref b] below meth c H1 locs1 cells slots Q (F0 m 830 ls [])) : W p l e room_1 s m #[Value.ref b] below meth c H locs cells slots Q (F0 m 305 ls []) := by
  obtain ⟨r, S1, T1, h1, h2, hR1⟩ := s_fault hR 
  refine lv_aload_n X.1.1 X.1.2.1 dL_law_305 rfl (lv_at hl 1 rfl) ?_
  refine lx_ci (rest := []) X hW hS [] (c_X8_fault l (D, cs, aC) AC  S (r, S1) h1) (cwV 0 X.1.2.2.2.2 gL_law_X8_fault rfl rfl rfl (by decide +kernel) ⟨Nat.le_of_ble_eq_true rfl, Nat.le_of_ble_eq_true rfl⟩) rfl hl.1 rfl (Nat.le_of_ble_eq_true rfl) dL_law_306 hc (fun H locs hW hS => ?_)
  refine lv_aload_n X.1.1 X.1.2.1 dL_law_309 rfl (lv_at hl 2 rfl) ?_
  refine lx_mi (rest := [.int r]) X hW hS [] (c_X9_fault l (D, cs, aM) AM  T (r, T1) h2) (cwV 0 X.1.2.2.2.2 gL_law_X9_fault rfl rfl rfl (by decide +kernel) ⟨Nat.le_of_ble_eq_true rfl, Nat.le_of_ble_eq_true rfl⟩) rfl hl.1 rfl (Nat.le_of_ble_eq_true rfl) dL_law_310 hc (fun H locs hW hS => ?_)
  exact lv_icmp_eq (tgt := 830) X.1.1 X.1.2.1 dL_law_313 (by decide) (fun _ => K S1 T1 H locs hR1 hW hS) (fun q => absurd rfl q)
set_option maxHeartbeats 4000000 in
set_option maxRecDepth 100000 in
theorem law_c6 {p : Program} {l : Launch} {e : Env} {s : State} {m : MethodId} {b L : Nat} {xs : Nat → Int32} {below : List Frame} {meth : Method} {c : Code} {H : Heap} {locs : List Loc} {cells slots : Nat} {Q : State → Prop} {D : va_G} {cs : CS} {aC aM : Nat → Nat → Nat} {AC AM : Nat → Prop} {S T : St} {ls : Array Slot} {i : Nat} (X : LCx p m c s b L xs D cs AC AM) (hR : Rel S T) (hW : WW D cs aC aM AC AM S T H) (hS : va_S (AZ s) s.heap H locs) (hl : lv_has ls 4 (lvL b aC aM i)) (hi : i + 5 ≤ L) (hc : cells ≤ 600000 ∧ slots ≤ 7302250) (K : ∀ (S1 T1 : St) (H1 : Heap) (locs1 : List Loc), Rel S1 T1 → WW D cs aC aM AC AM S1 T1 H1 → va_S (AZ s) s.heap H1 locs1 → W p l e room_1 s m #[Value.ref b] below meth c H1 locs1 cells slots Q (F0 m 830 ls [])) : W p l e room_1 s m #[Value.ref b] below meth c H locs cells slots Q (F0 m 318 ls []) := by
  obtain ⟨r, S1, T1, h1, h2, hR1⟩ := s_drop hR (xs (i + 1))
  refine lv_aload_n X.1.1 X.1.2.1 dL_law_318 rfl (lv_at hl 1 rfl) ?_
  refine lx_arg X hS hl hi 1 (by decide) (by decide) dL_law_319 dL_law_320 dL_law_321 dL_law_322 dL_law_323 ?_
  refine lx_ci (rest := []) X hW hS [.int (xs (i + 1))] (c_X8_drop l (D, cs, aC) AC (xs (i + 1)) S (r, S1) h1) (cwV 1 X.1.2.2.2.2 gL_law_X8_drop rfl rfl rfl (by decide +kernel) ⟨Nat.le_of_ble_eq_true rfl, Nat.le_of_ble_eq_true rfl⟩) rfl hl.1 rfl (Nat.le_of_ble_eq_true rfl) dL_law_324 hc (fun H locs hW hS => ?_)
  refine lv_aload_n X.1.1 X.1.2.1 dL_law_327 rfl (lv_at hl 2 rfl) ?_
  refine lx_arg X hS hl hi 1 (by decide) (by decide) dL_law_328 dL_law_329 dL_law_330 dL_law_331 dL_law_332 ?_
  refine lx_mi (rest := [.int r]) X hW hS [.int (xs (i + 1))] (c_X9_drop l (D, cs, aM) AM (xs (i + 1)) T (r, T1) h2) (cwV 1 X.1.2.2.2.2 gL_law_X9_drop rfl rfl rfl (by decide +kernel) ⟨Nat.le_of_ble_eq_true rfl, Nat.le_of_ble_eq_true rfl⟩) rfl hl.1 rfl (Nat.le_of_ble_eq_true rfl) dL_law_333 hc (fun H locs hW hS => ?_)
  exact lv_icmp_eq (tgt := 830) X.1.1 X.1.2.1 dL_law_336 (by decide) (fun _ => K S1 T1 H locs hR1 hW hS) (fun q => absurd rfl q)
set_option maxHeartbeats 4000000 in
set_option maxRecDepth 100000 in
theorem law_c7 {p : Program} {l : Launch} {e : Env} {s : State} {m : MethodId} {b L : Nat} {xs : Nat → Int32} {below : List Frame} {meth : Method} {c : Code} {H : Heap} {locs : List Loc} {cells slots : Nat} {Q : State → Prop} {D : va_G} {cs : CS} {aC aM : Nat → Nat → Nat} {AC AM : Nat → Prop} {S T : St} {ls : Array Slot} {i : Nat} (X : LCx p m c s b L xs D cs AC AM) (hR : Rel S T) (hW : WW D cs aC aM AC AM S T H) (hS : va_S (AZ s) s.heap H locs) (hl : lv_has ls 4 (lvL b aC aM i)) (hi : i + 5 ≤ L) (hc : cells ≤ 600000 ∧ slots ≤ 7302250) (K : ∀ (S1 T1 : St) (H1 : Heap) (locs1 : List Loc), Rel S1 T1 → WW D cs aC aM AC AM S1 T1 H1 → va_S (AZ s) s.heap H1 locs1 → W p l e room_1 s m #[Value.ref b] below meth c H1 locs1 cells slots Q (F0 m 830 ls [])) : W p l e room_1 s m #[Value.ref b] below meth c H locs cells slots Q (F0 m 341 ls []) := by
  obtain ⟨r, S1, T1, h1, h2, hR1⟩ := s_undo hR 
  refine lv_aload_n X.1.1 X.1.2.1 dL_law_341 rfl (lv_at hl 1 rfl) ?_
  refine lx_ci (rest := []) X hW hS [] (c_X8_undo l (D, cs, aC) AC  S (r, S1) h1) (cwV 0 X.1.2.2.2.2 gL_law_X8_undo rfl rfl rfl (by decide +kernel) ⟨Nat.le_of_ble_eq_true rfl, Nat.le_of_ble_eq_true rfl⟩) rfl hl.1 rfl (Nat.le_of_ble_eq_true rfl) dL_law_342 hc (fun H locs hW hS => ?_)
  refine lv_aload_n X.1.1 X.1.2.1 dL_law_345 rfl (lv_at hl 2 rfl) ?_
  refine lx_mi (rest := [.int r]) X hW hS [] (c_X9_undo l (D, cs, aM) AM  T (r, T1) h2) (cwV 0 X.1.2.2.2.2 gL_law_X9_undo rfl rfl rfl (by decide +kernel) ⟨Nat.le_of_ble_eq_true rfl, Nat.le_of_ble_eq_true rfl⟩) rfl hl.1 rfl (Nat.le_of_ble_eq_true rfl) dL_law_346 hc (fun H locs hW hS => ?_)
  exact lv_icmp_eq (tgt := 830) X.1.1 X.1.2.1 dL_law_349 (by decide) (fun _ => K S1 T1 H locs hR1 hW hS) (fun q => absurd rfl q)
