def ad_X9 (q7 q15 q23 q31 q39 q48 q57 q66 q75 q84 q92 q101 q110 q119 q127 q135 q143 q151 q159 q167 q175 q184 q193 q202 q211 q219 q227 q235 q243 q252 q261 q270 q279 q288 q297 q306 q315 q324 q332 : Nat) : Nat → Nat → Nat := fun k _ => match k with
  | 0 => q7
  | 1 => q15
  | 2 => q23
  | 3 => q31
  | 4 => q39
  | 5 => q48
  | 6 => q57
  | 7 => q66
  | 8 => q75
  | 9 => q84
  | 10 => q92
  | 11 => q101
  | 12 => q110
  | 13 => q119
  | 14 => q127
  | 15 => q135
  | 16 => q143
  | 17 => q151
  | 18 => q159
  | 19 => q167
  | 20 => q175
  | 21 => q184
  | 22 => q193
  | 23 => q202
  | 24 => q211
  | 25 => q219
  | 26 => q227
  | 27 => q235
  | 28 => q243
  | 29 => q252
  | 30 => q261
  | 31 => q270
  | 32 => q279
  | 33 => q288
  | 34 => q297
  | 35 => q306
  | 36 => q315
  | 37 => q324
  | 38 => q332
  | _ => 0
abbrev w1_X9 (D : va_G) (cs : CS) (h0 : Nat) (u : Nat → Nat → Nat) : va_W := wl shM idsM (D, cs, adz h0 u) T0
abbrev rm_X9_init : Room := { frames := 1, cells := 39, slots := 17010, locals := 12 }
abbrev df_X9 : List Value := [.int 0, .null, .null, .null, .null, .int 0, .null, .int 0, .null, .null, .int 0, .int 0, .null, .null, .null, .null, .null, .null, .null, .null, .int 0, .int 0, .int 0, .null, .null, .null, .null, .null, .null, .null, .null, .null, .null, .int 0, .int 0, .int 0, .null, .null, .null, .null, .int 0, .null, .null, .null, .null, .null, .int 0, .null, .null, .null, .int 0, .null, .null]
set_option maxRecDepth 100000 in
set_option maxHeartbeats 4000000 in
theorem fs_X9 (q7 q15 q23 q31 q39 q48 q57 q66 q75 q84 q92 q101 q110 q119 q127 q135 q143 q151 q159 q167 q175 q184 q193 q202 q211 q219 q227 q235 q243 q252 q261 q270 q279 q288 q297 q306 q315 q324 q332 : Nat) : (((((((((((((((((((((((((((((((((((((((df_X9.set 1 (.ref q7)).set 2 (.ref q15)).set 3 (.ref q23)).set 4 (.ref q31)).set 6 (.ref q39)).set 8 (.ref q48)).set 9 (.ref q57)).set 12 (.ref q66)).set 13 (.ref q75)).set 14 (.ref q84)).set 15 (.ref q92)).set 16 (.ref q101)).set 17 (.ref q110)).set 18 (.ref q119)).set 19 (.ref q127)).set 23 (.ref q135)).set 24 (.ref q143)).set 25 (.ref q151)).set 26 (.ref q159)).set 27 (.ref q167)).set 28 (.ref q175)).set 29 (.ref q184)).set 30 (.ref q193)).set 31 (.ref q202)).set 32 (.ref q211)).set 36 (.ref q219)).set 37 (.ref q227)).set 38 (.ref q235)).set 39 (.ref q243)).set 41 (.ref q252)).set 42 (.ref q261)).set 43 (.ref q270)).set 44 (.ref q279)).set 45 (.ref q288)).set 47 (.ref q297)).set 48 (.ref q306)).set 49 (.ref q315)).set 51 (.ref q324)).set 52 (.ref q332)) = [.int 0, .ref q7, .ref q15, .ref q23, .ref q31, .int 0, .ref q39, .int 0, .ref q48, .ref q57, .int 0, .int 0, .ref q66, .ref q75, .ref q84, .ref q92, .ref q101, .ref q110, .ref q119, .ref q127, .int 0, .int 0, .int 0, .ref q135, .ref q143, .ref q151, .ref q159, .ref q167, .ref q175, .ref q184, .ref q193, .ref q202, .ref q211, .int 0, .int 0, .int 0, .ref q219, .ref q227, .ref q235, .ref q243, .int 0, .ref q252, .ref q261, .ref q270, .ref q279, .ref q288, .int 0, .ref q297, .ref q306, .ref q315, .int 0, .ref q324, .ref q332] := by
  simp only [df_X9, List.set_cons_succ, List.set_cons_zero]
set_option maxRecDepth 100000 in
set_option maxHeartbeats 4000000 in
theorem ww_X9 (cs : CS) (q7 q15 q23 q31 q39 q48 q57 q66 q75 q84 q92 q101 q110 q119 q127 q135 q143 q151 q159 q167 q175 q184 q193 q202 q211 q219 q227 q235 q243 q252 q261 q270 q279 q288 q297 q306 q315 q324 q332 : Nat) : (((((((((((((((((((((((((((((((((((((((([] : va_W) ++ [(q7, .inl (cs.1, 40, .inl (fun _ => 0)))]) ++ [(q15, .inl (cs.1, 40, .inl (fun _ => 0)))]) ++ [(q23, .inl (cs.1, 40, .inl (fun _ => 0)))]) ++ [(q31, .inl (cs.1, 40, .inl (fun _ => 0)))]) ++ [(q39, .inl (cs.1, 8, .inl (fun _ => 0)))]) ++ [(q48, .inl (cs.1, 4200, .inl (fun _ => 0)))]) ++ [(q57, .inl (cs.1, 4200, .inl (fun _ => 0)))]) ++ [(q66, .inl (cs.1, 200, .inl (fun _ => 0)))]) ++ [(q75, .inl (cs.1, 200, .inl (fun _ => 0)))]) ++ [(q84, .inl (cs.1, 200, .inl (fun _ => 0)))]) ++ [(q92, .inl (cs.1, 40, .inl (fun _ => 0)))]) ++ [(q101, .inl (cs.1, 200, .inl (fun _ => 0)))]) ++ [(q110, .inl (cs.2.1, 200, .inl (fun _ => 0)))]) ++ [(q119, .inl (cs.2.1, 200, .inl (fun _ => 0)))]) ++ [(q127, .inl (cs.1, 60, .inl (fun _ => 0)))]) ++ [(q135, .inl (cs.2.1, 20, .inl (fun _ => 0)))]) ++ [(q143, .inl (cs.1, 20, .inl (fun _ => 0)))]) ++ [(q151, .inl (cs.1, 20, .inl (fun _ => 0)))]) ++ [(q159, .inl (cs.1, 20, .inl (fun _ => 0)))]) ++ [(q167, .inl (cs.1, 20, .inl (fun _ => 0)))]) ++ [(q175, .inl (cs.1, 20, .inl (fun _ => 0)))]) ++ [(q184, .inl (cs.1, 240, .inl (fun _ => 0)))]) ++ [(q193, .inl (cs.1, 240, .inl (fun _ => 0)))]) ++ [(q202, .inl (cs.1, 240, .inl (fun _ => 0)))]) ++ [(q211, .inl (cs.1, 240, .inl (fun _ => 0)))]) ++ [(q219, .inl (cs.1, 16, .inl (fun _ => 0)))]) ++ [(q227, .inl (cs.2.1, 16, .inl (fun _ => 0)))]) ++ [(q235, .inl (cs.1, 12, .inl (fun _ => 0)))]) ++ [(q243, .inl (cs.1, 6, .inl (fun _ => 0)))]) ++ [(q252, .inl (cs.2.1, 400, .inl (fun _ => 0)))]) ++ [(q261, .inl (cs.1, 400, .inl (fun _ => 0)))]) ++ [(q270, .inl (cs.1, 400, .inl (fun _ => 0)))]) ++ [(q279, .inl (cs.1, 400, .inl (fun _ => 0)))]) ++ [(q288, .inl (cs.1, 2400, .inl (fun _ => 0)))]) ++ [(q297, .inl (cs.1, 200, .inl (fun _ => 0)))]) ++ [(q306, .inl (cs.2.1, 200, .inl (fun _ => 0)))]) ++ [(q315, .inl (cs.1, 1400, .inl (fun _ => 0)))]) ++ [(q324, .inl (cs.1, 200, .inl (fun _ => 0)))]) ++ [(q332, .inl (cs.1, 12, .inl (fun _ => 0)))]) = ([(q7, .inl (cs.1, 40, .inl (fun _ => 0))), (q15, .inl (cs.1, 40, .inl (fun _ => 0))), (q23, .inl (cs.1, 40, .inl (fun _ => 0))), (q31, .inl (cs.1, 40, .inl (fun _ => 0))), (q39, .inl (cs.1, 8, .inl (fun _ => 0))), (q48, .inl (cs.1, 4200, .inl (fun _ => 0))), (q57, .inl (cs.1, 4200, .inl (fun _ => 0))), (q66, .inl (cs.1, 200, .inl (fun _ => 0))), (q75, .inl (cs.1, 200, .inl (fun _ => 0))), (q84, .inl (cs.1, 200, .inl (fun _ => 0))), (q92, .inl (cs.1, 40, .inl (fun _ => 0))), (q101, .inl (cs.1, 200, .inl (fun _ => 0))), (q110, .inl (cs.2.1, 200, .inl (fun _ => 0))), (q119, .inl (cs.2.1, 200, .inl (fun _ => 0))), (q127, .inl (cs.1, 60, .inl (fun _ => 0))), (q135, .inl (cs.2.1, 20, .inl (fun _ => 0))), (q143, .inl (cs.1, 20, .inl (fun _ => 0))), (q151, .inl (cs.1, 20, .inl (fun _ => 0))), (q159, .inl (cs.1, 20, .inl (fun _ => 0))), (q167, .inl (cs.1, 20, .inl (fun _ => 0))), (q175, .inl (cs.1, 20, .inl (fun _ => 0))), (q184, .inl (cs.1, 240, .inl (fun _ => 0))), (q193, .inl (cs.1, 240, .inl (fun _ => 0))), (q202, .inl (cs.1, 240, .inl (fun _ => 0))), (q211, .inl (cs.1, 240, .inl (fun _ => 0))), (q219, .inl (cs.1, 16, .inl (fun _ => 0))), (q227, .inl (cs.2.1, 16, .inl (fun _ => 0))), (q235, .inl (cs.1, 12, .inl (fun _ => 0))), (q243, .inl (cs.1, 6, .inl (fun _ => 0))), (q252, .inl (cs.2.1, 400, .inl (fun _ => 0))), (q261, .inl (cs.1, 400, .inl (fun _ => 0))), (q270, .inl (cs.1, 400, .inl (fun _ => 0))), (q279, .inl (cs.1, 400, .inl (fun _ => 0))), (q288, .inl (cs.1, 2400, .inl (fun _ => 0))), (q297, .inl (cs.1, 200, .inl (fun _ => 0))), (q306, .inl (cs.2.1, 200, .inl (fun _ => 0))), (q315, .inl (cs.1, 1400, .inl (fun _ => 0))), (q324, .inl (cs.1, 200, .inl (fun _ => 0))), (q332, .inl (cs.1, 12, .inl (fun _ => 0)))] : va_W) := by
  simp only [List.nil_append, List.cons_append, List.append_assoc]
set_option maxRecDepth 100000 in
theorem wl_X9 (D : va_G) (cs : CS) (h0 q7 q15 q23 q31 q39 q48 q57 q66 q75 q84 q92 q101 q110 q119 q127 q135 q143 q151 q159 q167 q175 q184 q193 q202 q211 q219 q227 q235 q243 q252 q261 q270 q279 q288 q297 q306 q315 q324 q332 : Nat) : ((h0, .inr (9, [.int 0, .ref q7, .ref q15, .ref q23, .ref q31, .int 0, .ref q39, .int 0, .ref q48, .ref q57, .int 0, .int 0, .ref q66, .ref q75, .ref q84, .ref q92, .ref q101, .ref q110, .ref q119, .ref q127, .int 0, .int 0, .int 0, .ref q135, .ref q143, .ref q151, .ref q159, .ref q167, .ref q175, .ref q184, .ref q193, .ref q202, .ref q211, .int 0, .int 0, .int 0, .ref q219, .ref q227, .ref q235, .ref q243, .int 0, .ref q252, .ref q261, .ref q270, .ref q279, .ref q288, .int 0, .ref q297, .ref q306, .ref q315, .int 0, .ref q324, .ref q332])) :: [(q7, .inl (cs.1, 40, .inl (fun _ => 0))), (q15, .inl (cs.1, 40, .inl (fun _ => 0))), (q23, .inl (cs.1, 40, .inl (fun _ => 0))), (q31, .inl (cs.1, 40, .inl (fun _ => 0))), (q39, .inl (cs.1, 8, .inl (fun _ => 0))), (q48, .inl (cs.1, 4200, .inl (fun _ => 0))), (q57, .inl (cs.1, 4200, .inl (fun _ => 0))), (q66, .inl (cs.1, 200, .inl (fun _ => 0))), (q75, .inl (cs.1, 200, .inl (fun _ => 0))), (q84, .inl (cs.1, 200, .inl (fun _ => 0))), (q92, .inl (cs.1, 40, .inl (fun _ => 0))), (q101, .inl (cs.1, 200, .inl (fun _ => 0))), (q110, .inl (cs.2.1, 200, .inl (fun _ => 0))), (q119, .inl (cs.2.1, 200, .inl (fun _ => 0))), (q127, .inl (cs.1, 60, .inl (fun _ => 0))), (q135, .inl (cs.2.1, 20, .inl (fun _ => 0))), (q143, .inl (cs.1, 20, .inl (fun _ => 0))), (q151, .inl (cs.1, 20, .inl (fun _ => 0))), (q159, .inl (cs.1, 20, .inl (fun _ => 0))), (q167, .inl (cs.1, 20, .inl (fun _ => 0))), (q175, .inl (cs.1, 20, .inl (fun _ => 0))), (q184, .inl (cs.1, 240, .inl (fun _ => 0))), (q193, .inl (cs.1, 240, .inl (fun _ => 0))), (q202, .inl (cs.1, 240, .inl (fun _ => 0))), (q211, .inl (cs.1, 240, .inl (fun _ => 0))), (q219, .inl (cs.1, 16, .inl (fun _ => 0))), (q227, .inl (cs.2.1, 16, .inl (fun _ => 0))), (q235, .inl (cs.1, 12, .inl (fun _ => 0))), (q243, .inl (cs.1, 6, .inl (fun _ => 0))), (q252, .inl (cs.2.1, 400, .inl (fun _ => 0))), (q261, .inl (cs.1, 400, .inl (fun _ => 0))), (q270, .inl (cs.1, 400, .inl (fun _ => 0))), (q279, .inl (cs.1, 400, .inl (fun _ => 0))), (q288, .inl (cs.1, 2400, .inl (fun _ => 0))), (q297, .inl (cs.1, 200, .inl (fun _ => 0))), (q306, .inl (cs.2.1, 200, .inl (fun _ => 0))), (q315, .inl (cs.1, 1400, .inl (fun _ => 0))), (q324, .inl (cs.1, 200, .inl (fun _ => 0))), (q332, .inl (cs.1, 12, .inl (fun _ => 0)))] : va_W) = wl shM idsM (D, cs, adz h0 (ad_X9 q7 q15 q23 q31 q39 q48 q57 q66 q75 q84 q92 q101 q110 q119 q127 q135 q143 q151 q159 q167 q175 q184 q193 q202 q211 q219 q227 q235 q243 q252 q261 q270 q279 q288 q297 q306 q315 q324 q332)) T0 := rfl
set_option maxHeartbeats 4000000 in
set_option maxRecDepth 100000 in
theorem c_X9_init (l : Launch) (D : va_G) (cs : CS) (h0 : Nat) (sz : Nat) : Met l yX9_init wsX9_init rm_X9_init (va_Pc [.ref h0] (CI D cs [(h0, .inr (9, df_X9))] sz)) (CO D cs [(h0, .inr (9, df_X9))] sz (w1_X9 D cs h0)) 39 17010 (va_A [(h0, .inr (9, df_X9))] sz) := by
  refine Met.ofW (cc := cX9_init) (maxL := 1) (ret := none) (by decide) rfl ?_
  intro p e s m args below meth c s₁ B hml hv
  obtain ⟨rfl, hsz, hP, hK, hD0, hN0⟩ := hv
  have F : CallFix p m c cX9_init 1 s _ wsX9_init RX9 := ⟨B.exec, B.bytes, hml, findClass_of_methodNamed B.named, atoms_spec (ws := wsX9_init) B.pre⟩
  have hr := B.returns
  have hlk := B.notSynchronized
  have hin : meth.name = "<init>" := (name_of_methodNamed B.named B.method).1
  subst hsz
  have hD := hD0.self (sz := s.heap.size)
  have hA : ∀ q : Nat, s.heap.size ≤ q → va_A [(h0, .inr (9, df_X9))] s.heap.size q := fun q h => Or.inr h
  have hS : va_S (va_A [(h0, .inr (9, df_X9))] s.heap.size) s.heap s.heap [] := va_S.rf
  obtain ⟨A, eA⟩ : ∃ A, A = va_A [(h0, .inr (9, df_X9))] s.heap.size := ⟨_, rfl⟩
  obtain ⟨fs0, f0⟩ : ∃ x, x = df_X9 := ⟨_, rfl⟩
  obtain ⟨w0, g0⟩ : ∃ w : va_W, w = [] := ⟨_, rfl⟩
  have hf : fs0.length = 53 := by rw [f0]; rfl
  have hP : va_P D vwCl ((h0, .inr (9, fs0)) :: w0) s.heap := by rw [f0, g0]; exact hP
  have hD : va_D A ((h0, .inr (9, fs0)) :: w0) := by rw [f0, g0, eA]; exact hD
  have hA : ∀ q : Nat, s.heap.size ≤ q → A q := by rw [eA]; exact hA
  have hS : va_S A s.heap s.heap [] := by rw [eA]; exact hS
  have hl := lv_entry ([.ref h0]) (n := 1) (Nat.le_of_ble_eq_true rfl)
  rw [lg_entry_eq]
  generalize (lg_sl ([.ref h0]) ++ List.replicate (1 - (lg_sl ([.ref h0])).length) Slot.unset).toArray = ls at hl ⊢
  have hl : lv_has ls 1 [(0, .ref h0)] := hl
  refine lv_aload_n F.1 F.2.1 dX9_init_0 rfl (lv_at hl 0 rfl) ?_
  refine W.objInit F.1 F.2.1 F.2.2.2.1 (F.2.2.2.2 (.methodLink RX9 1 objectInit) (by decide +kernel)) (F.2.2.2.2 (.instanceMethod objectInit) (by decide +kernel)) (F.2.2.2.2 (.code objectInit ⟨#[0xb1]⟩ 1 none) (by decide +kernel)) rfl (F.2.2.1 ▸ hl.1) rfl dX9_init_1 (Nat.le_of_ble_eq_true rfl) (Nat.le_of_ble_eq_true rfl) ?_
  refine W.eq (g2 := F0 m 4 ls []) rfl ?_
  refine lv_aload_n F.1 F.2.1 dX9_init_4 rfl (lv_at hl 0 rfl) ?_
  refine lv_bipush (v := 40) F.1 F.2.1 dX9_init_5 (by decide) ?_
  refine m_int (N := 40) (idx := 7) F hin hK hf hP hD hS hA 1 (by decide) (by decide +kernel) (by decide +kernel) (by decide +kernel) (by decide +kernel) (by decide) (by decide) (by decide) 1 40 (by decide) (by decide) dX9_init_7 dX9_init_9 (fun q7 fs1 w1 H locs f1 g1 hf hP hD hS => ?_)
  refine lv_aload_n F.1 F.2.1 dX9_init_12 rfl (lv_at hl 0 rfl) ?_
  refine lv_bipush (v := 40) F.1 F.2.1 dX9_init_13 (by decide) ?_
  refine m_int (N := 40) (idx := 13) F hin hK hf hP hD hS hA 2 (by decide) (by decide +kernel) (by decide +kernel) (by decide +kernel) (by decide +kernel) (by decide) (by decide) (by decide) 2 80 (by decide) (by decide) dX9_init_15 dX9_init_17 (fun q15 fs2 w2 H locs f2 g2 hf hP hD hS => ?_)
  refine lv_aload_n F.1 F.2.1 dX9_init_20 rfl (lv_at hl 0 rfl) ?_
  refine lv_bipush (v := 40) F.1 F.2.1 dX9_init_21 (by decide) ?_
  refine m_int (N := 40) (idx := 16) F hin hK hf hP hD hS hA 3 (by decide) (by decide +kernel) (by decide +kernel) (by decide +kernel) (by decide +kernel) (by decide) (by decide) (by decide) 3 120 (by decide) (by decide) dX9_init_23 dX9_init_25 (fun q23 fs3 w3 H locs f3 g3 hf hP hD hS => ?_)
  refine lv_aload_n F.1 F.2.1 dX9_init_28 rfl (lv_at hl 0 rfl) ?_
  refine lv_bipush (v := 40) F.1 F.2.1 dX9_init_29 (by decide) ?_
  refine m_int (N := 40) (idx := 19) F hin hK hf hP hD hS hA 4 (by decide) (by decide +kernel) (by decide +kernel) (by decide +kernel) (by decide +kernel) (by decide) (by decide) (by decide) 4 160 (by decide) (by decide) dX9_init_31 dX9_init_33 (fun q31 fs4 w4 H locs f4 g4 hf hP hD hS => ?_)
  refine lv_aload_n F.1 F.2.1 dX9_init_36 rfl (lv_at hl 0 rfl) ?_
  refine lv_bipush (v := 8) F.1 F.2.1 dX9_init_37 (by decide) ?_
  refine m_int (N := 8) (idx := 22) F hin hK hf hP hD hS hA 6 (by decide) (by decide +kernel) (by decide +kernel) (by decide +kernel) (by decide +kernel) (by decide) (by decide) (by decide) 5 168 (by decide) (by decide) dX9_init_39 dX9_init_41 (fun q39 fs5 w5 H locs f5 g5 hf hP hD hS => ?_)
  refine lv_aload_n F.1 F.2.1 dX9_init_44 rfl (lv_at hl 0 rfl) ?_
  refine lv_sipush (v := 4200) F.1 F.2.1 dX9_init_45 (by decide) ?_
  refine m_int (N := 4200) (idx := 25) F hin hK hf hP hD hS hA 8 (by decide) (by decide +kernel) (by decide +kernel) (by decide +kernel) (by decide +kernel) (by decide) (by decide) (by decide) 6 4368 (by decide) (by decide) dX9_init_48 dX9_init_50 (fun q48 fs6 w6 H locs f6 g6 hf hP hD hS => ?_)
  refine lv_aload_n F.1 F.2.1 dX9_init_53 rfl (lv_at hl 0 rfl) ?_
  refine lv_sipush (v := 4200) F.1 F.2.1 dX9_init_54 (by decide) ?_
  refine m_int (N := 4200) (idx := 28) F hin hK hf hP hD hS hA 9 (by decide) (by decide +kernel) (by decide +kernel) (by decide +kernel) (by decide +kernel) (by decide) (by decide) (by decide) 7 8568 (by decide) (by decide) dX9_init_57 dX9_init_59 (fun q57 fs7 w7 H locs f7 g7 hf hP hD hS => ?_)
  refine lv_aload_n F.1 F.2.1 dX9_init_62 rfl (lv_at hl 0 rfl) ?_
  refine lv_sipush (v := 200) F.1 F.2.1 dX9_init_63 (by decide) ?_
  refine m_int (N := 200) (idx := 31) F hin hK hf hP hD hS hA 12 (by decide) (by decide +kernel) (by decide +kernel) (by decide +kernel) (by decide +kernel) (by decide) (by decide) (by decide) 8 8768 (by decide) (by decide) dX9_init_66 dX9_init_68 (fun q66 fs8 w8 H locs f8 g8 hf hP hD hS => ?_)
  refine lv_aload_n F.1 F.2.1 dX9_init_71 rfl (lv_at hl 0 rfl) ?_
  refine lv_sipush (v := 200) F.1 F.2.1 dX9_init_72 (by decide) ?_
  refine m_int (N := 200) (idx := 34) F hin hK hf hP hD hS hA 13 (by decide) (by decide +kernel) (by decide +kernel) (by decide +kernel) (by decide +kernel) (by decide) (by decide) (by decide) 9 8968 (by decide) (by decide) dX9_init_75 dX9_init_77 (fun q75 fs9 w9 H locs f9 g9 hf hP hD hS => ?_)
  refine lv_aload_n F.1 F.2.1 dX9_init_80 rfl (lv_at hl 0 rfl) ?_
  refine lv_sipush (v := 200) F.1 F.2.1 dX9_init_81 (by decide) ?_
  refine m_int (N := 200) (idx := 37) F hin hK hf hP hD hS hA 14 (by decide) (by decide +kernel) (by decide +kernel) (by decide +kernel) (by decide +kernel) (by decide) (by decide) (by decide) 10 9168 (by decide) (by decide) dX9_init_84 dX9_init_86 (fun q84 fs10 w10 H locs f10 g10 hf hP hD hS => ?_)
  refine lv_aload_n F.1 F.2.1 dX9_init_89 rfl (lv_at hl 0 rfl) ?_
  refine lv_bipush (v := 40) F.1 F.2.1 dX9_init_90 (by decide) ?_
  refine m_int (N := 40) (idx := 40) F hin hK hf hP hD hS hA 15 (by decide) (by decide +kernel) (by decide +kernel) (by decide +kernel) (by decide +kernel) (by decide) (by decide) (by decide) 11 9208 (by decide) (by decide) dX9_init_92 dX9_init_94 (fun q92 fs11 w11 H locs f11 g11 hf hP hD hS => ?_)
  refine lv_aload_n F.1 F.2.1 dX9_init_97 rfl (lv_at hl 0 rfl) ?_
  refine lv_sipush (v := 200) F.1 F.2.1 dX9_init_98 (by decide) ?_
  refine m_int (N := 200) (idx := 43) F hin hK hf hP hD hS hA 16 (by decide) (by decide +kernel) (by decide +kernel) (by decide +kernel) (by decide +kernel) (by decide) (by decide) (by decide) 12 9408 (by decide) (by decide) dX9_init_101 dX9_init_103 (fun q101 fs12 w12 H locs f12 g12 hf hP hD hS => ?_)
  refine lv_aload_n F.1 F.2.1 dX9_init_106 rfl (lv_at hl 0 rfl) ?_
  refine lv_sipush (v := 200) F.1 F.2.1 dX9_init_107 (by decide) ?_
  refine m_bool (N := 200) (idx := 46) F hin hK hf hP hD hS hA 17 (by decide) (by decide +kernel) (by decide +kernel) (by decide +kernel) (by decide +kernel) (by decide) (by decide) (by decide) 13 9608 (by decide) (by decide) dX9_init_110 dX9_init_112 (fun q110 fs13 w13 H locs f13 g13 hf hP hD hS => ?_)
  refine lv_aload_n F.1 F.2.1 dX9_init_115 rfl (lv_at hl 0 rfl) ?_
  refine lv_sipush (v := 200) F.1 F.2.1 dX9_init_116 (by decide) ?_
  refine m_bool (N := 200) (idx := 50) F hin hK hf hP hD hS hA 18 (by decide) (by decide +kernel) (by decide +kernel) (by decide +kernel) (by decide +kernel) (by decide) (by decide) (by decide) 14 9808 (by decide) (by decide) dX9_init_119 dX9_init_121 (fun q119 fs14 w14 H locs f14 g14 hf hP hD hS => ?_)
  refine lv_aload_n F.1 F.2.1 dX9_init_124 rfl (lv_at hl 0 rfl) ?_
  refine lv_bipush (v := 60) F.1 F.2.1 dX9_init_125 (by decide) ?_
  refine m_int (N := 60) (idx := 53) F hin hK hf hP hD hS hA 19 (by decide) (by decide +kernel) (by decide +kernel) (by decide +kernel) (by decide +kernel) (by decide) (by decide) (by decide) 15 9868 (by decide) (by decide) dX9_init_127 dX9_init_129 (fun q127 fs15 w15 H locs f15 g15 hf hP hD hS => ?_)
  refine lv_aload_n F.1 F.2.1 dX9_init_132 rfl (lv_at hl 0 rfl) ?_
  refine lv_bipush (v := 20) F.1 F.2.1 dX9_init_133 (by decide) ?_
  refine m_bool (N := 20) (idx := 56) F hin hK hf hP hD hS hA 23 (by decide) (by decide +kernel) (by decide +kernel) (by decide +kernel) (by decide +kernel) (by decide) (by decide) (by decide) 16 9888 (by decide) (by decide) dX9_init_135 dX9_init_137 (fun q135 fs16 w16 H locs f16 g16 hf hP hD hS => ?_)
  refine lv_aload_n F.1 F.2.1 dX9_init_140 rfl (lv_at hl 0 rfl) ?_
  refine lv_bipush (v := 20) F.1 F.2.1 dX9_init_141 (by decide) ?_
  refine m_int (N := 20) (idx := 59) F hin hK hf hP hD hS hA 24 (by decide) (by decide +kernel) (by decide +kernel) (by decide +kernel) (by decide +kernel) (by decide) (by decide) (by decide) 17 9908 (by decide) (by decide) dX9_init_143 dX9_init_145 (fun q143 fs17 w17 H locs f17 g17 hf hP hD hS => ?_)
  refine lv_aload_n F.1 F.2.1 dX9_init_148 rfl (lv_at hl 0 rfl) ?_
  refine lv_bipush (v := 20) F.1 F.2.1 dX9_init_149 (by decide) ?_
  refine m_int (N := 20) (idx := 62) F hin hK hf hP hD hS hA 25 (by decide) (by decide +kernel) (by decide +kernel) (by decide +kernel) (by decide +kernel) (by decide) (by decide) (by decide) 18 9928 (by decide) (by decide) dX9_init_151 dX9_init_153 (fun q151 fs18 w18 H locs f18 g18 hf hP hD hS => ?_)
  refine lv_aload_n F.1 F.2.1 dX9_init_156 rfl (lv_at hl 0 rfl) ?_
  refine lv_bipush (v := 20) F.1 F.2.1 dX9_init_157 (by decide) ?_
  refine m_int (N := 20) (idx := 65) F hin hK hf hP hD hS hA 26 (by decide) (by decide +kernel) (by decide +kernel) (by decide +kernel) (by decide +kernel) (by decide) (by decide) (by decide) 19 9948 (by decide) (by decide) dX9_init_159 dX9_init_161 (fun q159 fs19 w19 H locs f19 g19 hf hP hD hS => ?_)
  refine lv_aload_n F.1 F.2.1 dX9_init_164 rfl (lv_at hl 0 rfl) ?_
  refine lv_bipush (v := 20) F.1 F.2.1 dX9_init_165 (by decide) ?_
  refine m_int (N := 20) (idx := 68) F hin hK hf hP hD hS hA 27 (by decide) (by decide +kernel) (by decide +kernel) (by decide +kernel) (by decide +kernel) (by decide) (by decide) (by decide) 20 9968 (by decide) (by decide) dX9_init_167 dX9_init_169 (fun q167 fs20 w20 H locs f20 g20 hf hP hD hS => ?_)
  refine lv_aload_n F.1 F.2.1 dX9_init_172 rfl (lv_at hl 0 rfl) ?_
  refine lv_bipush (v := 20) F.1 F.2.1 dX9_init_173 (by decide) ?_
  refine m_int (N := 20) (idx := 71) F hin hK hf hP hD hS hA 28 (by decide) (by decide +kernel) (by decide +kernel) (by decide +kernel) (by decide +kernel) (by decide) (by decide) (by decide) 21 9988 (by decide) (by decide) dX9_init_175 dX9_init_177 (fun q175 fs21 w21 H locs f21 g21 hf hP hD hS => ?_)
  refine lv_aload_n F.1 F.2.1 dX9_init_180 rfl (lv_at hl 0 rfl) ?_
  refine lv_sipush (v := 240) F.1 F.2.1 dX9_init_181 (by decide) ?_
  refine m_int (N := 240) (idx := 74) F hin hK hf hP hD hS hA 29 (by decide) (by decide +kernel) (by decide +kernel) (by decide +kernel) (by decide +kernel) (by decide) (by decide) (by decide) 22 10228 (by decide) (by decide) dX9_init_184 dX9_init_186 (fun q184 fs22 w22 H locs f22 g22 hf hP hD hS => ?_)
  refine lv_aload_n F.1 F.2.1 dX9_init_189 rfl (lv_at hl 0 rfl) ?_
  refine lv_sipush (v := 240) F.1 F.2.1 dX9_init_190 (by decide) ?_
  refine m_int (N := 240) (idx := 77) F hin hK hf hP hD hS hA 30 (by decide) (by decide +kernel) (by decide +kernel) (by decide +kernel) (by decide +kernel) (by decide) (by decide) (by decide) 23 10468 (by decide) (by decide) dX9_init_193 dX9_init_195 (fun q193 fs23 w23 H locs f23 g23 hf hP hD hS => ?_)
  refine lv_aload_n F.1 F.2.1 dX9_init_198 rfl (lv_at hl 0 rfl) ?_
  refine lv_sipush (v := 240) F.1 F.2.1 dX9_init_199 (by decide) ?_
  refine m_int (N := 240) (idx := 80) F hin hK hf hP hD hS hA 31 (by decide) (by decide +kernel) (by decide +kernel) (by decide +kernel) (by decide +kernel) (by decide) (by decide) (by decide) 24 10708 (by decide) (by decide) dX9_init_202 dX9_init_204 (fun q202 fs24 w24 H locs f24 g24 hf hP hD hS => ?_)
  refine lv_aload_n F.1 F.2.1 dX9_init_207 rfl (lv_at hl 0 rfl) ?_
  refine lv_sipush (v := 240) F.1 F.2.1 dX9_init_208 (by decide) ?_
  refine m_int (N := 240) (idx := 83) F hin hK hf hP hD hS hA 32 (by decide) (by decide +kernel) (by decide +kernel) (by decide +kernel) (by decide +kernel) (by decide) (by decide) (by decide) 25 10948 (by decide) (by decide) dX9_init_211 dX9_init_213 (fun q211 fs25 w25 H locs f25 g25 hf hP hD hS => ?_)
  refine lv_aload_n F.1 F.2.1 dX9_init_216 rfl (lv_at hl 0 rfl) ?_
  refine lv_bipush (v := 16) F.1 F.2.1 dX9_init_217 (by decide) ?_
  refine m_int (N := 16) (idx := 86) F hin hK hf hP hD hS hA 36 (by decide) (by decide +kernel) (by decide +kernel) (by decide +kernel) (by decide +kernel) (by decide) (by decide) (by decide) 26 10964 (by decide) (by decide) dX9_init_219 dX9_init_221 (fun q219 fs26 w26 H locs f26 g26 hf hP hD hS => ?_)
  refine lv_aload_n F.1 F.2.1 dX9_init_224 rfl (lv_at hl 0 rfl) ?_
  refine lv_bipush (v := 16) F.1 F.2.1 dX9_init_225 (by decide) ?_
  refine m_bool (N := 16) (idx := 89) F hin hK hf hP hD hS hA 37 (by decide) (by decide +kernel) (by decide +kernel) (by decide +kernel) (by decide +kernel) (by decide) (by decide) (by decide) 27 10980 (by decide) (by decide) dX9_init_227 dX9_init_229 (fun q227 fs27 w27 H locs f27 g27 hf hP hD hS => ?_)
  refine lv_aload_n F.1 F.2.1 dX9_init_232 rfl (lv_at hl 0 rfl) ?_
  refine lv_bipush (v := 12) F.1 F.2.1 dX9_init_233 (by decide) ?_
  refine m_int (N := 12) (idx := 92) F hin hK hf hP hD hS hA 38 (by decide) (by decide +kernel) (by decide +kernel) (by decide +kernel) (by decide +kernel) (by decide) (by decide) (by decide) 28 10992 (by decide) (by decide) dX9_init_235 dX9_init_237 (fun q235 fs28 w28 H locs f28 g28 hf hP hD hS => ?_)
  refine lv_aload_n F.1 F.2.1 dX9_init_240 rfl (lv_at hl 0 rfl) ?_
  refine lv_bipush (v := 6) F.1 F.2.1 dX9_init_241 (by decide) ?_
  refine m_int (N := 6) (idx := 95) F hin hK hf hP hD hS hA 39 (by decide) (by decide +kernel) (by decide +kernel) (by decide +kernel) (by decide +kernel) (by decide) (by decide) (by decide) 29 10998 (by decide) (by decide) dX9_init_243 dX9_init_245 (fun q243 fs29 w29 H locs f29 g29 hf hP hD hS => ?_)
  refine lv_aload_n F.1 F.2.1 dX9_init_248 rfl (lv_at hl 0 rfl) ?_
  refine lv_sipush (v := 400) F.1 F.2.1 dX9_init_249 (by decide) ?_
  refine m_bool (N := 400) (idx := 98) F hin hK hf hP hD hS hA 41 (by decide) (by decide +kernel) (by decide +kernel) (by decide +kernel) (by decide +kernel) (by decide) (by decide) (by decide) 30 11398 (by decide) (by decide) dX9_init_252 dX9_init_254 (fun q252 fs30 w30 H locs f30 g30 hf hP hD hS => ?_)
  refine lv_aload_n F.1 F.2.1 dX9_init_257 rfl (lv_at hl 0 rfl) ?_
  refine lv_sipush (v := 400) F.1 F.2.1 dX9_init_258 (by decide) ?_
  refine m_int (N := 400) (idx := 101) F hin hK hf hP hD hS hA 42 (by decide) (by decide +kernel) (by decide +kernel) (by decide +kernel) (by decide +kernel) (by decide) (by decide) (by decide) 31 11798 (by decide) (by decide) dX9_init_261 dX9_init_263 (fun q261 fs31 w31 H locs f31 g31 hf hP hD hS => ?_)
  refine lv_aload_n F.1 F.2.1 dX9_init_266 rfl (lv_at hl 0 rfl) ?_
  refine lv_sipush (v := 400) F.1 F.2.1 dX9_init_267 (by decide) ?_
  refine m_int (N := 400) (idx := 104) F hin hK hf hP hD hS hA 43 (by decide) (by decide +kernel) (by decide +kernel) (by decide +kernel) (by decide +kernel) (by decide) (by decide) (by decide) 32 12198 (by decide) (by decide) dX9_init_270 dX9_init_272 (fun q270 fs32 w32 H locs f32 g32 hf hP hD hS => ?_)
  refine lv_aload_n F.1 F.2.1 dX9_init_275 rfl (lv_at hl 0 rfl) ?_
  refine lv_sipush (v := 400) F.1 F.2.1 dX9_init_276 (by decide) ?_
  refine m_int (N := 400) (idx := 107) F hin hK hf hP hD hS hA 44 (by decide) (by decide +kernel) (by decide +kernel) (by decide +kernel) (by decide +kernel) (by decide) (by decide) (by decide) 33 12598 (by decide) (by decide) dX9_init_279 dX9_init_281 (fun q279 fs33 w33 H locs f33 g33 hf hP hD hS => ?_)
  refine lv_aload_n F.1 F.2.1 dX9_init_284 rfl (lv_at hl 0 rfl) ?_
  refine lv_sipush (v := 2400) F.1 F.2.1 dX9_init_285 (by decide) ?_
  refine m_int (N := 2400) (idx := 110) F hin hK hf hP hD hS hA 45 (by decide) (by decide +kernel) (by decide +kernel) (by decide +kernel) (by decide +kernel) (by decide) (by decide) (by decide) 34 14998 (by decide) (by decide) dX9_init_288 dX9_init_290 (fun q288 fs34 w34 H locs f34 g34 hf hP hD hS => ?_)
  refine lv_aload_n F.1 F.2.1 dX9_init_293 rfl (lv_at hl 0 rfl) ?_
  refine lv_sipush (v := 200) F.1 F.2.1 dX9_init_294 (by decide) ?_
  refine m_int (N := 200) (idx := 113) F hin hK hf hP hD hS hA 47 (by decide) (by decide +kernel) (by decide +kernel) (by decide +kernel) (by decide +kernel) (by decide) (by decide) (by decide) 35 15198 (by decide) (by decide) dX9_init_297 dX9_init_299 (fun q297 fs35 w35 H locs f35 g35 hf hP hD hS => ?_)
  refine lv_aload_n F.1 F.2.1 dX9_init_302 rfl (lv_at hl 0 rfl) ?_
  refine lv_sipush (v := 200) F.1 F.2.1 dX9_init_303 (by decide) ?_
  refine m_bool (N := 200) (idx := 116) F hin hK hf hP hD hS hA 48 (by decide) (by decide +kernel) (by decide +kernel) (by decide +kernel) (by decide +kernel) (by decide) (by decide) (by decide) 36 15398 (by decide) (by decide) dX9_init_306 dX9_init_308 (fun q306 fs36 w36 H locs f36 g36 hf hP hD hS => ?_)
  refine lv_aload_n F.1 F.2.1 dX9_init_311 rfl (lv_at hl 0 rfl) ?_
  refine lv_sipush (v := 1400) F.1 F.2.1 dX9_init_312 (by decide) ?_
  refine m_int (N := 1400) (idx := 119) F hin hK hf hP hD hS hA 49 (by decide) (by decide +kernel) (by decide +kernel) (by decide +kernel) (by decide +kernel) (by decide) (by decide) (by decide) 37 16798 (by decide) (by decide) dX9_init_315 dX9_init_317 (fun q315 fs37 w37 H locs f37 g37 hf hP hD hS => ?_)
  refine lv_aload_n F.1 F.2.1 dX9_init_320 rfl (lv_at hl 0 rfl) ?_
  refine lv_sipush (v := 200) F.1 F.2.1 dX9_init_321 (by decide) ?_
  refine m_int (N := 200) (idx := 122) F hin hK hf hP hD hS hA 51 (by decide) (by decide +kernel) (by decide +kernel) (by decide +kernel) (by decide +kernel) (by decide) (by decide) (by decide) 38 16998 (by decide) (by decide) dX9_init_324 dX9_init_326 (fun q324 fs38 w38 H locs f38 g38 hf hP hD hS => ?_)
  refine lv_aload_n F.1 F.2.1 dX9_init_329 rfl (lv_at hl 0 rfl) ?_
  refine lv_bipush (v := 12) F.1 F.2.1 dX9_init_330 (by decide) ?_
  refine m_int (N := 12) (idx := 125) F hin hK hf hP hD hS hA 52 (by decide) (by decide +kernel) (by decide +kernel) (by decide +kernel) (by decide +kernel) (by decide) (by decide) (by decide) 39 17010 (by decide) (by decide) dX9_init_332 dX9_init_334 (fun q332 fs39 w39 H locs f39 g39 hf hP hD hS => ?_)
  have kk : ((h0, .inr (9, fs39)) :: w39 : va_W) = wl shM idsM (D, cs, adz h0 (ad_X9 q7 q15 q23 q31 q39 q48 q57 q66 q75 q84 q92 q101 q110 q119 q127 q135 q143 q151 q159 q167 q175 q184 q193 q202 q211 q219 q227 q235 q243 q252 q261 q270 q279 q288 q297 q306 q315 q324 q332)) T0 := by
    rw [f39, f38, f37, f36, f35, f34, f33, f32, f31, f30, f29, f28, f27, f26, f25, f24, f23, f22, f21, f20, f19, f18, f17, f16, f15, f14, f13, f12, f11, f10, f9, f8, f7, f6, f5, f4, f3, f2, f1, f0, fs_X9]
    rw [g39, g38, g37, g36, g35, g34, g33, g32, g31, g30, g29, g28, g27, g26, g25, g24, g23, g22, g21, g20, g19, g18, g17, g16, g15, g14, g13, g12, g11, g10, g9, g8, g7, g6, g5, g4, g3, g2, g1, g0, ww_X9]
    exact wl_X9 D cs h0 q7 q15 q23 q31 q39 q48 q57 q66 q75 q84 q92 q101 q110 q119 q127 q135 q143 q151 q159 q167 q175 q184 q193 q202 q211 q219 q227 q235 q243 q252 q261 q270 q279 q288 q297 q306 q315 q324 q332
  rw [kk] at hP hD
  subst eA
  exact nw_ret F hr hlk hK (ad_X9 q7 q15 q23 q31 q39 q48 q57 q66 q75 q84 q92 q101 q110 q119 q127 q135 q143 q151 q159 q167 q175 q184 q193 q202 q211 q219 q227 q235 q243 q252 q261 q270 q279 q288 q297 q306 q315 q324 q332) hP hD hS dX9_init_337 (by decide) (by decide)
