/-! CellCover$Matcher.lay(I)I -/
abbrev rm_X4_lay : Room := { frames := 1, cells := 0, slots := 0, locals := 24 }
theorem in_X4_lay_X4 : ∀ w ∈ wsX40, w ∈ wsX4_lay := by decide +kernel
theorem in_X4_lay_X0 : ∀ w ∈ wsX00, w ∈ wsX4_lay := by decide +kernel
theorem in_X4_lay_X7 : ∀ w ∈ wsX70, w ∈ wsX4_lay := by decide +kernel
theorem lk_X4_lay_15 : Cond.fieldLink RX4 15 "CellCover$Matcher" "pinAt" "[I" ∈ wsX4_lay := by decide +kernel
theorem lk_X4_lay_9 : Cond.fieldLink RX4 9 "CellCover$Matcher" "waiting" "[I" ∈ wsX4_lay := by decide +kernel
theorem lk_X4_lay_22 : Cond.fieldLink RX4 22 "CellCover$Matcher" "top" "I" ∈ wsX4_lay := by decide +kernel
theorem lk_X4_lay_18 : Cond.fieldLink RX4 18 "CellCover$Matcher" "cell" "LCellCover$Cell;" ∈ wsX4_lay := by decide +kernel
theorem lk_X4_lay_46 : Cond.fieldLink RX4 46 "CellCover$Cell" "symbols" "I" ∈ wsX4_lay := by decide +kernel
theorem lk_X4_lay_49 : Cond.fieldLink RX4 49 "CellCover$Cell" "symbol" "[I" ∈ wsX4_lay := by decide +kernel
theorem lk_X4_lay_29 : Cond.fieldLink RX4 29 "CellCover$Matcher" "vertices" "LCellCover$Vertices;" ∈ wsX4_lay := by decide +kernel
theorem lk_X4_lay_56 : Cond.fieldLink RX4 56 "CellCover$Vertices" "first" "[I" ∈ wsX4_lay := by decide +kernel
theorem lk_X4_lay_33 : Cond.fieldLink RX4 33 "CellCover$Cell" "nands" "I" ∈ wsX4_lay := by decide +kernel
theorem lk_X4_lay_61 : Cond.fieldLink RX4 61 "CellCover$Vertices" "second" "[I" ∈ wsX4_lay := by decide +kernel
set_option maxHeartbeats 4000000 in
set_option maxRecDepth 100000 in
theorem w_X4_lay_2 {p : Program} {l : Launch} {e : Env} {s : State} {m : MethodId} {args : Array Value} {below : List Frame} {meth : Method} {c : Code} {G : GT} {A : Nat → Prop} (F : CallFix p m c cX4_lay 8 s args wsX4_lay RX4) (hr : meth.sig.returnType = (some .int)) (hlk : meth.locks = false) (hK : va_K G.1 vwCl (tyl G) s) (out : Int32 × St) (k22 : St → Int32 → Option (Int32 × St)) (K22 : ∀ (S : St) (x1 : Int32) (H : Heap) (locs : List Loc) (ls : Array Slot), Wd shC idsC G A S H → va_S A s.heap H locs → lv_has ls 8 [(0, .ref (G.2.2 5 0)), (1, .int x1)] → k22 S x1 = some out → W p l e rm_X4_lay s m args below meth c H locs 0 0 (MQ below (QI shC idsC G A out) args s 0 0 A) (F0 m 22 ls [])) : ∀ n : Nat, ∀ (S : St) (x1 : Int32) (x2 : Int32) (H : Heap) (locs : List Loc) (ls : Array Slot), Wd shC idsC G A S H → va_S A s.heap H locs → lv_has ls 8 [(0, .ref (G.2.2 5 0)), (1, .int x1), (2, .int x2)] → l_X4_lay_2 k22 n S x1 x2 = some out → W p l e rm_X4_lay s m args below meth c H locs 0 0 (MQ below (QI shC idsC G A out) args s 0 0 A) (F0 m 2 ls []) := by
  intro n
  induction n with
  | zero =>
    intro S x1 x2 H locs ls hW hS hl h
    cases h
  | succ n Kb =>
    generalize hkb : l_X4_lay_2 k22 n = kb at Kb
    intro S x1 x2 H locs ls hW hS hl h
    rw [show l_X4_lay_2 k22 (n + 1) = b_X4_lay_2 (l_X4_lay_2 k22 n) k22 from rfl, hkb] at h
    unfold b_X4_lay_2 at h
    refine lv_iload_n F.1 F.2.1 dX4_lay_2 rfl (lv_at hl 2 rfl) ?_
    refine lv_bipush (v := 6) F.1 F.2.1 dX4_lay_3 (by decide) ?_
    refine lv_icmp_ge (tgt := 22) F.1 F.2.1 dX4_lay_5 (by decide) (fun c_1 => ?_) (fun c_1 => ?_)
    · have h := (if_pos c_1).symm.trans h
      exact K22 _ _ _ _ _  hW hS (lv_sub hl [0, 1] rfl) h
    · have h := (if_neg c_1).symm.trans h
      refine lv_aload_n F.1 F.2.1 dX4_lay_8 rfl (lv_at hl 0 rfl) ?_
      refine rw_get (q0 := 5) F hK hW idC_5 rfl rfl in_X4_lay_X4 2 (by decide) lk_X4_lay_15 rfl dX4_lay_9 ?_
      refine lv_iload_n F.1 F.2.1 dX4_lay_12 rfl (lv_at hl 2 rfl) ?_
      refine lv_bipush (v := -4) F.1 F.2.1 dX4_lay_13 (by decide) ?_
      obtain ⟨b_2, h⟩ := gd_some h
      refine rw_iast ndC (q0 := 46) F hK hW hS idC_26 (fun _ => rfl) (ix_in b_2) dX4_lay_15 (fun H locs S_3 eS_3 hW hS => ?_)
      have h := lt_n eS_3 h
      obtain ⟨v_4, ev_4⟩ : ∃ y : Int32, y = x2 + 1 := ⟨_, rfl⟩
      have h := lt_n ev_4 h
      refine lv_iinc (v := v_4) (lv' := [(2, .int v_4), (0, .ref (G.2.2 5 0)), (1, .int x1)]) F.1 F.2.1 dX4_lay_16 hl (k := 2) rfl (by rw [ev_4]; rfl) (by decide) rfl (fun ls hl => ?_)
      refine lv_goto (tgt := 2) F.1 F.2.1 dX4_lay_19 (by decide) ?_
      exact Kb _ _ _ _ _ _  hW hS (lv_sub hl [1, 2, 0] rfl) h
set_option maxHeartbeats 4000000 in
set_option maxRecDepth 100000 in
theorem w_X4_lay_245 {p : Program} {l : Launch} {e : Env} {s : State} {m : MethodId} {args : Array Value} {below : List Frame} {meth : Method} {c : Code} {G : GT} {A : Nat → Prop} (F : CallFix p m c cX4_lay 8 s args wsX4_lay RX4) (hr : meth.sig.returnType = (some .int)) (hlk : meth.locks = false) (hK : va_K G.1 vwCl (tyl G) s) (out : Int32 × St) (kb : St → Int32 → Int32 → Int32 → Int32 → Option (Int32 × St)) (Kb : ∀ (S : St) (x1 : Int32) (x2 : Int32) (x3 : Int32) (x4 : Int32) (H : Heap) (locs : List Loc) (ls : Array Slot), Wd shC idsC G A S H → va_S A s.heap H locs → lv_has ls 8 [(0, .ref (G.2.2 5 0)), (1, .int x1), (2, .int x2), (3, .int x3), (4, .int x4)] → kb S x1 x2 x3 x4 = some out → W p l e rm_X4_lay s m args below meth c H locs 0 0 (MQ below (QI shC idsC G A out) args s 0 0 A) (F0 m 39 ls [])) : ∀ (S : St) (x1 : Int32) (x2 : Int32) (x3 : Int32) (x4 : Int32) (H : Heap) (locs : List Loc) (ls : Array Slot), Wd shC idsC G A S H → va_S A s.heap H locs → lv_has ls 8 [(0, .ref (G.2.2 5 0)), (1, .int x1), (2, .int x2), (3, .int x3), (4, .int x4)] → j_X4_lay_245 kb S x1 x2 x3 x4 = some out → W p l e rm_X4_lay s m args below meth c H locs 0 0 (MQ below (QI shC idsC G A out) args s 0 0 A) (F0 m 245 ls []) := by
  intro S x1 x2 x3 x4 H locs ls hW hS hl h
  unfold j_X4_lay_245 at h
  obtain ⟨v_26, ev_26⟩ : ∃ y : Int32, y = x4 + 1 := ⟨_, rfl⟩
  have h := lt_n ev_26 h
  refine lv_iinc (v := v_26) (lv' := [(4, .int v_26), (0, .ref (G.2.2 5 0)), (1, .int x1), (2, .int x2), (3, .int x3)]) F.1 F.2.1 dX4_lay_245 hl (k := 4) rfl (by rw [ev_26]; rfl) (by decide) rfl (fun ls hl => ?_)
  refine lv_goto (tgt := 39) F.1 F.2.1 dX4_lay_248 (by decide) ?_
  exact Kb _ _ _ _ _ _ _ _  hW hS (lv_sub hl [1, 2, 3, 4, 0] rfl) h
set_option maxHeartbeats 4000000 in
set_option maxRecDepth 100000 in
theorem w_X4_lay_200 {p : Program} {l : Launch} {e : Env} {s : State} {m : MethodId} {args : Array Value} {below : List Frame} {meth : Method} {c : Code} {G : GT} {A : Nat → Prop} (F : CallFix p m c cX4_lay 8 s args wsX4_lay RX4) (hr : meth.sig.returnType = (some .int)) (hlk : meth.locks = false) (hK : va_K G.1 vwCl (tyl G) s) (out : Int32 × St) (kb : St → Int32 → Int32 → Int32 → Int32 → Option (Int32 × St)) (Kb : ∀ (S : St) (x1 : Int32) (x2 : Int32) (x3 : Int32) (x4 : Int32) (H : Heap) (locs : List Loc) (ls : Array Slot), Wd shC idsC G A S H → va_S A s.heap H locs → lv_has ls 8 [(0, .ref (G.2.2 5 0)), (1, .int x1), (2, .int x2), (3, .int x3), (4, .int x4)] → kb S x1 x2 x3 x4 = some out → W p l e rm_X4_lay s m args below meth c H locs 0 0 (MQ below (QI shC idsC G A out) args s 0 0 A) (F0 m 39 ls [])) : ∀ (S : St) (x1 : Int32) (x2 : Int32) (x3 : Int32) (x4 : Int32) (y1 : Int32) (y2 : Int32) (H : Heap) (locs : List Loc) (ls : Array Slot), Wd shC idsC G A S H → va_S A s.heap H locs → lv_has ls 8 [(0, .ref (G.2.2 5 0)), (1, .int x1), (2, .int x2), (3, .int x3), (4, .int x4)] → j_X4_lay_200 kb S x1 x2 x3 x4 y1 y2 = some out → W p l e rm_X4_lay s m args below meth c H locs 0 0 (MQ below (QI shC idsC G A out) args s 0 0 A) (F0 m 200 ls [.int y2, .int y1, .ref (G.2.2 25 0)]) := by
  intro S x1 x2 x3 x4 y1 y2 H locs ls hW hS hl h
  unfold j_X4_lay_200 at h
  obtain ⟨b_44, h⟩ := gd_some h
  refine rw_iast ndC (q0 := 45) F hK hW hS idC_25 (fun _ => rfl) (ix_in b_44) dX4_lay_200 (fun H locs S_45 eS_45 hW hS => ?_)
  have h := lt_n eS_45 h
  obtain ⟨v_46, ev_46⟩ : ∃ y : Int32, y = x2 + 2 := ⟨_, rfl⟩
  have h := lt_n ev_46 h
  refine lv_iinc (v := v_46) (lv' := [(2, .int v_46), (0, .ref (G.2.2 5 0)), (1, .int x1), (3, .int x3), (4, .int x4)]) F.1 F.2.1 dX4_lay_201 hl (k := 2) rfl (by rw [ev_46]; rfl) (by decide) rfl (fun ls hl => ?_)
  refine lv_goto (tgt := 245) F.1 F.2.1 dX4_lay_204 (by decide) ?_
  exact w_X4_lay_245 F hr hlk hK out kb Kb _ _ _ _ _ _ _ _  hW hS (lv_sub hl [1, 2, 0, 3, 4] rfl) h
set_option maxHeartbeats 4000000 in
set_option maxRecDepth 100000 in
theorem w_X4_lay_164 {p : Program} {l : Launch} {e : Env} {s : State} {m : MethodId} {args : Array Value} {below : List Frame} {meth : Method} {c : Code} {G : GT} {A : Nat → Prop} (F : CallFix p m c cX4_lay 8 s args wsX4_lay RX4) (hr : meth.sig.returnType = (some .int)) (hlk : meth.locks = false) (hK : va_K G.1 vwCl (tyl G) s) (out : Int32 × St) (kb : St → Int32 → Int32 → Int32 → Int32 → Option (Int32 × St)) (Kb : ∀ (S : St) (x1 : Int32) (x2 : Int32) (x3 : Int32) (x4 : Int32) (H : Heap) (locs : List Loc) (ls : Array Slot), Wd shC idsC G A S H → va_S A s.heap H locs → lv_has ls 8 [(0, .ref (G.2.2 5 0)), (1, .int x1), (2, .int x2), (3, .int x3), (4, .int x4)] → kb S x1 x2 x3 x4 = some out → W p l e rm_X4_lay s m args below meth c H locs 0 0 (MQ below (QI shC idsC G A out) args s 0 0 A) (F0 m 39 ls [])) : ∀ (S : St) (x1 : Int32) (x2 : Int32) (x3 : Int32) (x4 : Int32) (x6 : Int32) (x7 : Int32) (y1 : Int32) (y2 : Int32) (H : Heap) (locs : List Loc) (ls : Array Slot), Wd shC idsC G A S H → va_S A s.heap H locs → lv_has ls 8 [(0, .ref (G.2.2 5 0)), (1, .int x1), (2, .int x2), (3, .int x3), (4, .int x4), (6, .int x6), (7, .int x7)] → j_X4_lay_164 kb S x1 x2 x3 x4 x6 x7 y1 y2 = some out → W p l e rm_X4_lay s m args below meth c H locs 0 0 (MQ below (QI shC idsC G A out) args s 0 0 A) (F0 m 164 ls [.int y2, .int y1, .ref (G.2.2 25 0)]) := by
  intro S x1 x2 x3 x4 x6 x7 y1 y2 H locs ls hW hS hl h
  unfold j_X4_lay_164 at h
  obtain ⟨b_39, h⟩ := gd_some h
  refine rw_iast ndC (q0 := 45) F hK hW hS idC_25 (fun _ => rfl) (ix_in b_39) dX4_lay_164 (fun H locs S_40 eS_40 hW hS => ?_)
  have h := lt_n eS_40 h
  refine lv_aload_n F.1 F.2.1 dX4_lay_165 rfl (lv_at hl 0 rfl) ?_
  refine rw_get (q0 := 5) F hK hW idC_5 rfl rfl in_X4_lay_X4 1 (by decide) lk_X4_lay_9 rfl dX4_lay_166 ?_
  refine lv_iload_n F.1 F.2.1 dX4_lay_169 rfl (lv_at hl 2 rfl) ?_
  refine lv_iconst (v := 1) F.1 F.2.1 dX4_lay_170 (by decide) ?_
  refine lv_iadd F.1 F.2.1 dX4_lay_171 ?_
  refine lv_iload F.1 F.2.1 dX4_lay_172 (lv_at hl 6 rfl) ?_
  refine lv_if_eq (tgt := 190) F.1 F.2.1 dX4_lay_174 (by decide) (fun c_41 => ?_) (fun c_41 => ?_)
  · have h := (if_pos c_41).symm.trans h
    refine lv_aload_n F.1 F.2.1 dX4_lay_190 rfl (lv_at hl 0 rfl) ?_
    refine rw_get (q0 := 5) F hK hW idC_5 rfl rfl in_X4_lay_X4 0 (by decide) lk_X4_lay_29 rfl dX4_lay_191 ?_
    refine rw_get (q0 := 1) F hK hW idC_1 rfl rfl in_X4_lay_X7 1 (by decide) lk_X4_lay_56 rfl dX4_lay_194 ?_
    refine lv_iload F.1 F.2.1 dX4_lay_197 (lv_at hl 5 rfl) ?_
    obtain ⟨b_42, h⟩ := gd_some h
    refine rw_iald (q0 := 30) F hK hW idC_10 (fun _ => rfl) (ix_in b_42) dX4_lay_199 ?_
    refine lv_topi (fun v_43 ev_43 => ?_)
    have h := lt_n ev_43 h
    exact w_X4_lay_200 F hr hlk hK out kb Kb _ _ _ _ _ _ _ _ _ _  hW hS (lv_sub hl [0, 1, 2, 3, 4] rfl) h
  · have h := (if_neg c_41).symm.trans h
    refine lv_aload_n F.1 F.2.1 dX4_lay_177 rfl (lv_at hl 0 rfl) ?_
    refine rw_get (q0 := 5) F hK hW idC_5 rfl rfl in_X4_lay_X4 0 (by decide) lk_X4_lay_29 rfl dX4_lay_178 ?_
    refine rw_get (q0 := 1) F hK hW idC_1 rfl rfl in_X4_lay_X7 2 (by decide) lk_X4_lay_61 rfl dX4_lay_181 ?_
    refine lv_iload F.1 F.2.1 dX4_lay_184 (lv_at hl 5 rfl) ?_
    obtain ⟨b_47, h⟩ := gd_some h
    refine rw_iald (q0 := 31) F hK hW idC_11 (fun _ => rfl) (ix_in b_47) dX4_lay_186 ?_
    refine lv_topi (fun v_48 ev_48 => ?_)
    have h := lt_n ev_48 h
    refine lv_goto (tgt := 200) F.1 F.2.1 dX4_lay_187 (by decide) ?_
    exact w_X4_lay_200 F hr hlk hK out kb Kb _ _ _ _ _ _ _ _ _ _  hW hS (lv_sub hl [0, 1, 2, 3, 4] rfl) h
set_option maxHeartbeats 4000000 in
set_option maxRecDepth 100000 in
theorem w_X4_lay_129 {p : Program} {l : Launch} {e : Env} {s : State} {m : MethodId} {args : Array Value} {below : List Frame} {meth : Method} {c : Code} {G : GT} {A : Nat → Prop} (F : CallFix p m c cX4_lay 8 s args wsX4_lay RX4) (hr : meth.sig.returnType = (some .int)) (hlk : meth.locks = false) (hK : va_K G.1 vwCl (tyl G) s) (out : Int32 × St) (kb : St → Int32 → Int32 → Int32 → Int32 → Option (Int32 × St)) (Kb : ∀ (S : St) (x1 : Int32) (x2 : Int32) (x3 : Int32) (x4 : Int32) (H : Heap) (locs : List Loc) (ls : Array Slot), Wd shC idsC G A S H → va_S A s.heap H locs → lv_has ls 8 [(0, .ref (G.2.2 5 0)), (1, .int x1), (2, .int x2), (3, .int x3), (4, .int x4)] → kb S x1 x2 x3 x4 = some out → W p l e rm_X4_lay s m args below meth c H locs 0 0 (MQ below (QI shC idsC G A out) args s 0 0 A) (F0 m 39 ls [])) : ∀ (S : St) (x1 : Int32) (x2 : Int32) (x3 : Int32) (x4 : Int32) (x6 : Int32) (y0 : Int32) (H : Heap) (locs : List Loc) (ls : Array Slot), Wd shC idsC G A S H → va_S A s.heap H locs → lv_has ls 8 [(0, .ref (G.2.2 5 0)), (1, .int x1), (2, .int x2), (3, .int x3), (4, .int x4), (6, .int x6)] → j_X4_lay_129 kb S x1 x2 x3 x4 x6 y0 = some out → W p l e rm_X4_lay s m args below meth c H locs 0 0 (MQ below (QI shC idsC G A out) args s 0 0 A) (F0 m 129 ls [.int y0]) := by
  intro S x1 x2 x3 x4 x6 y0 H locs ls hW hS hl h
  unfold j_X4_lay_129 at h
  refine lv_istore (lv' := [(7, .int y0), (0, .ref (G.2.2 5 0)), (1, .int x1), (2, .int x2), (3, .int x3), (4, .int x4), (6, .int x6)]) F.1 F.2.1 dX4_lay_129 hl (by decide) rfl (fun ls hl => ?_)
  refine lv_aload_n F.1 F.2.1 dX4_lay_131 rfl (lv_at hl 1 rfl) ?_
  refine rw_get (q0 := 5) F hK hW idC_5 rfl rfl in_X4_lay_X4 1 (by decide) lk_X4_lay_9 rfl dX4_lay_132 ?_
  refine lv_iload_n F.1 F.2.1 dX4_lay_135 rfl (lv_at hl 3 rfl) ?_
  refine lv_iload F.1 F.2.1 dX4_lay_136 (lv_at hl 0 rfl) ?_
  refine lv_if_eq (tgt := 154) F.1 F.2.1 dX4_lay_138 (by decide) (fun c_36 => ?_) (fun c_36 => ?_)
  · have h := (if_pos c_36).symm.trans h
    refine lv_aload_n F.1 F.2.1 dX4_lay_154 rfl (lv_at hl 1 rfl) ?_
    refine rw_get (q0 := 5) F hK hW idC_5 rfl rfl in_X4_lay_X4 0 (by decide) lk_X4_lay_29 rfl dX4_lay_155 ?_
    refine rw_get (q0 := 1) F hK hW idC_1 rfl rfl in_X4_lay_X7 2 (by decide) lk_X4_lay_61 rfl dX4_lay_158 ?_
    refine lv_iload F.1 F.2.1 dX4_lay_161 (lv_at hl 6 rfl) ?_
    obtain ⟨b_37, h⟩ := gd_some h
    refine rw_iald (q0 := 31) F hK hW idC_11 (fun _ => rfl) (ix_in b_37) dX4_lay_163 ?_
    refine lv_topi (fun v_38 ev_38 => ?_)
    have h := lt_n ev_38 h
    exact w_X4_lay_164 F hr hlk hK out kb Kb _ _ _ _ _ _ _ _ _ _ _ _  hW hS (lv_sub hl [1, 2, 3, 4, 5, 6, 0] rfl) h
  · have h := (if_neg c_36).symm.trans h
    refine lv_aload_n F.1 F.2.1 dX4_lay_141 rfl (lv_at hl 1 rfl) ?_
    refine rw_get (q0 := 5) F hK hW idC_5 rfl rfl in_X4_lay_X4 0 (by decide) lk_X4_lay_29 rfl dX4_lay_142 ?_
    refine rw_get (q0 := 1) F hK hW idC_1 rfl rfl in_X4_lay_X7 1 (by decide) lk_X4_lay_56 rfl dX4_lay_145 ?_
    refine lv_iload F.1 F.2.1 dX4_lay_148 (lv_at hl 6 rfl) ?_
    obtain ⟨b_49, h⟩ := gd_some h
    refine rw_iald (q0 := 30) F hK hW idC_10 (fun _ => rfl) (ix_in b_49) dX4_lay_150 ?_
    refine lv_topi (fun v_50 ev_50 => ?_)
    have h := lt_n ev_50 h
    refine lv_goto (tgt := 164) F.1 F.2.1 dX4_lay_151 (by decide) ?_
    exact w_X4_lay_164 F hr hlk hK out kb Kb _ _ _ _ _ _ _ _ _ _ _ _  hW hS (lv_sub hl [1, 2, 3, 4, 5, 6, 0] rfl) h
set_option maxHeartbeats 4000000 in
set_option maxRecDepth 100000 in
theorem w_X4_lay_89 {p : Program} {l : Launch} {e : Env} {s : State} {m : MethodId} {args : Array Value} {below : List Frame} {meth : Method} {c : Code} {G : GT} {A : Nat → Prop} (F : CallFix p m c cX4_lay 8 s args wsX4_lay RX4) (hr : meth.sig.returnType = (some .int)) (hlk : meth.locks = false) (hK : va_K G.1 vwCl (tyl G) s) (out : Int32 × St) (kb : St → Int32 → Int32 → Int32 → Int32 → Option (Int32 × St)) (Kb : ∀ (S : St) (x1 : Int32) (x2 : Int32) (x3 : Int32) (x4 : Int32) (H : Heap) (locs : List Loc) (ls : Array Slot), Wd shC idsC G A S H → va_S A s.heap H locs → lv_has ls 8 [(0, .ref (G.2.2 5 0)), (1, .int x1), (2, .int x2), (3, .int x3), (4, .int x4)] → kb S x1 x2 x3 x4 = some out → W p l e rm_X4_lay s m args below meth c H locs 0 0 (MQ below (QI shC idsC G A out) args s 0 0 A) (F0 m 39 ls [])) : ∀ (S : St) (x1 : Int32) (x2 : Int32) (x3 : Int32) (x4 : Int32) (x5 : Int32) (x6 : Int32) (y1 : Int32) (y2 : Int32) (y3 : Int32) (H : Heap) (locs : List Loc) (ls : Array Slot), Wd shC idsC G A S H → va_S A s.heap H locs → lv_has ls 8 [(0, .ref (G.2.2 5 0)), (1, .int x1), (2, .int x2), (3, .int x3), (4, .int x4), (5, .int x5), (6, .int x6)] → j_X4_lay_89 kb S x1 x2 x3 x4 x5 x6 y1 y2 y3 = some out → W p l e rm_X4_lay s m args below meth c H locs 0 0 (MQ below (QI shC idsC G A out) args s 0 0 A) (F0 m 89 ls [.int y3, .int y2, .int y1, .ref (G.2.2 5 0)]) := by
  intro S x1 x2 x3 x4 x5 x6 y1 y2 y3 H locs ls hW hS hl h
  unfold j_X4_lay_89 at h
  obtain ⟨r_19, S_20, hq_18, h⟩ := bi_some h
  refine rw_vi F hK hW hS [.int y1, .int y2, .int y3] (rest := []) (c_X4_fits l G A y1 y2 y3 S (r_19, S_20) hq_18) (cwV 3 F.2.2.2.2 gX4_lay_X4_fits rfl rfl rfl (by decide +kernel) ⟨Nat.le_of_ble_eq_true rfl, Nat.le_of_ble_eq_true rfl⟩) (rw_recv (q0 := 5) hK hW idC_5 rfl rfl) rfl hl.1 rfl (Nat.le_of_ble_eq_true rfl) dX4_lay_89 (fun H locs hW hS => ?_)
  refine lv_if_ne (tgt := 97) F.1 F.2.1 dX4_lay_92 (by decide) (fun c_21 => ?_) (fun c_21 => ?_)
  · have h := (if_neg c_21).symm.trans h
    refine lv_iload F.1 F.2.1 dX4_lay_97 (lv_at hl 5 rfl) ?_
    refine lv_bipush (v := 7) F.1 F.2.1 dX4_lay_99 (by decide) ?_
    refine lv_icmp_ne (tgt := 207) F.1 F.2.1 dX4_lay_101 (by decide) (fun c_22 => ?_) (fun c_22 => ?_)
    · have h := (if_neg c_22).symm.trans h
      refine lv_iload F.1 F.2.1 dX4_lay_207 (lv_at hl 5 rfl) ?_
      refine lv_bipush (v := 6) F.1 F.2.1 dX4_lay_209 (by decide) ?_
      refine lv_icmp_ne (tgt := 236) F.1 F.2.1 dX4_lay_211 (by decide) (fun c_23 => ?_) (fun c_23 => ?_)
      · have h := (if_neg c_23).symm.trans h
        refine lv_aload_n F.1 F.2.1 dX4_lay_236 rfl (lv_at hl 0 rfl) ?_
        refine rw_get (q0 := 5) F hK hW idC_5 rfl rfl in_X4_lay_X4 2 (by decide) lk_X4_lay_15 rfl dX4_lay_237 ?_
        refine lv_iload F.1 F.2.1 dX4_lay_240 (lv_at hl 5 rfl) ?_
        refine lv_iload F.1 F.2.1 dX4_lay_242 (lv_at hl 6 rfl) ?_
        obtain ⟨b_24, h⟩ := gd_some h
        refine rw_iast ndC (q0 := 46) F hK hW hS idC_26 (fun _ => rfl) (ix_in b_24) dX4_lay_244 (fun H locs S_25 eS_25 hW hS => ?_)
        have h := lt_n eS_25 h
        exact w_X4_lay_245 F hr hlk hK out kb Kb _ _ _ _ _ _ _ _  hW hS (lv_sub hl [0, 1, 2, 3, 4] rfl) h
      · have h := (if_pos c_23).symm.trans h
        refine lv_aload_n F.1 F.2.1 dX4_lay_214 rfl (lv_at hl 0 rfl) ?_
        refine rw_get (q0 := 5) F hK hW idC_5 rfl rfl in_X4_lay_X4 1 (by decide) lk_X4_lay_9 rfl dX4_lay_215 ?_
        refine lv_iload_n F.1 F.2.1 dX4_lay_218 rfl (lv_at hl 2 rfl) ?_
        refine lv_aload_n F.1 F.2.1 dX4_lay_219 rfl (lv_at hl 0 rfl) ?_
        refine rw_get (q0 := 5) F hK hW idC_5 rfl rfl in_X4_lay_X4 0 (by decide) lk_X4_lay_29 rfl dX4_lay_220 ?_
        refine rw_get (q0 := 1) F hK hW idC_1 rfl rfl in_X4_lay_X7 1 (by decide) lk_X4_lay_56 rfl dX4_lay_223 ?_
        refine lv_iload F.1 F.2.1 dX4_lay_226 (lv_at hl 6 rfl) ?_
        obtain ⟨b_27, h⟩ := gd_some h
        refine rw_iald (q0 := 30) F hK hW idC_10 (fun _ => rfl) (ix_in b_27) dX4_lay_228 ?_
        refine lv_topi (fun v_28 ev_28 => ?_)
        have h := lt_n ev_28 h
        obtain ⟨b_29, h⟩ := gd_some h
        refine rw_iast ndC (q0 := 45) F hK hW hS idC_25 (fun _ => rfl) (ix_in b_29) dX4_lay_229 (fun H locs S_30 eS_30 hW hS => ?_)
        have h := lt_n eS_30 h
        obtain ⟨v_31, ev_31⟩ : ∃ y : Int32, y = x2 + 1 := ⟨_, rfl⟩
        have h := lt_n ev_31 h
        refine lv_iinc (v := v_31) (lv' := [(2, .int v_31), (0, .ref (G.2.2 5 0)), (1, .int x1), (3, .int x3), (4, .int x4), (5, .int x5), (6, .int x6)]) F.1 F.2.1 dX4_lay_230 hl (k := 2) rfl (by rw [ev_31]; rfl) (by decide) rfl (fun ls hl => ?_)
        refine lv_goto (tgt := 245) F.1 F.2.1 dX4_lay_233 (by decide) ?_
        exact w_X4_lay_245 F hr hlk hK out kb Kb _ _ _ _ _ _ _ _  hW hS (lv_sub hl [1, 2, 0, 3, 4] rfl) h
    · have h := (if_pos c_22).symm.trans h
      obtain ⟨v_32, ev_32⟩ : ∃ y : Int32, y = x3 + 1 := ⟨_, rfl⟩
      have h := lt_n ev_32 h
      refine lv_iinc (v := v_32) (lv' := [(3, .int v_32), (0, .ref (G.2.2 5 0)), (1, .int x1), (2, .int x2), (4, .int x4), (5, .int x5), (6, .int x6)]) F.1 F.2.1 dX4_lay_104 hl (k := 3) rfl (by rw [ev_32]; rfl) (by decide) rfl (fun ls hl => ?_)
      refine lv_iload_n F.1 F.2.1 dX4_lay_107 rfl (lv_at hl 2 rfl) ?_
      refine lv_aload_n F.1 F.2.1 dX4_lay_108 rfl (lv_at hl 1 rfl) ?_
      refine rw_get (q0 := 5) F hK hW idC_5 rfl rfl in_X4_lay_X4 3 (by decide) lk_X4_lay_18 rfl dX4_lay_109 ?_
      by_cases c_33 : S_20 5 0 3 < 0
      · have h := (if_pos c_33).symm.trans h
        rw [rfn_null c_33]
        cases h
      · have h := (if_neg c_33).symm.trans h
        obtain ⟨b_34, h⟩ := gd_some h
        rw [rfn_ref c_33]
        refine rw_get (q0 := 9 + ((S_20 5 0 3).toNatClampNeg)) F hK hW (idC_8 _ (ix_lt b_34)) rfl rfl in_X4_lay_X0 2 (by decide) lk_X4_lay_33 rfl dX4_lay_112 ?_
        refine lv_iload_n F.1 F.2.1 dX4_lay_115 rfl (lv_at hl 0 rfl) ?_
        refine lv_isub F.1 F.2.1 dX4_lay_116 ?_
        refine lv_ishr F.1 F.2.1 dX4_lay_117 ?_
        refine lv_iconst (v := 1) F.1 F.2.1 dX4_lay_118 (by decide) ?_
        refine lv_iand F.1 F.2.1 dX4_lay_119 ?_
        refine lv_iconst (v := 1) F.1 F.2.1 dX4_lay_120 (by decide) ?_
        refine lv_icmp_ne (tgt := 128) F.1 F.2.1 dX4_lay_121 (by decide) (fun c_35 => ?_) (fun c_35 => ?_)
        · have h := (if_neg c_35).symm.trans h
          refine lv_iconst (v := 0) F.1 F.2.1 dX4_lay_128 (by decide) ?_
          exact w_X4_lay_129 F hr hlk hK out kb Kb _ _ _ _ _ _ _ _ _ _  hW hS (lv_sub hl [1, 2, 3, 0, 4, 6] rfl) h
        · have h := (if_pos c_35).symm.trans h
          refine lv_iconst (v := 1) F.1 F.2.1 dX4_lay_124 (by decide) ?_
          refine lv_goto (tgt := 129) F.1 F.2.1 dX4_lay_125 (by decide) ?_
          exact w_X4_lay_129 F hr hlk hK out kb Kb _ _ _ _ _ _ _ _ _ _  hW hS (lv_sub hl [1, 2, 3, 0, 4, 6] rfl) h
  · have h := (if_pos c_21).symm.trans h
    refine lv_iload_n F.1 F.2.1 dX4_lay_95 rfl (lv_at hl 3 rfl) ?_
    exact rw_ret F hr hlk hK hW hS h dX4_lay_96
set_option maxHeartbeats 4000000 in
set_option maxRecDepth 100000 in
theorem w_X4_lay_39 {p : Program} {l : Launch} {e : Env} {s : State} {m : MethodId} {args : Array Value} {below : List Frame} {meth : Method} {c : Code} {G : GT} {A : Nat → Prop} (F : CallFix p m c cX4_lay 8 s args wsX4_lay RX4) (hr : meth.sig.returnType = (some .int)) (hlk : meth.locks = false) (hK : va_K G.1 vwCl (tyl G) s) (out : Int32 × St) : ∀ n : Nat, ∀ (S : St) (x1 : Int32) (x2 : Int32) (x3 : Int32) (x4 : Int32) (H : Heap) (locs : List Loc) (ls : Array Slot), Wd shC idsC G A S H → va_S A s.heap H locs → lv_has ls 8 [(0, .ref (G.2.2 5 0)), (1, .int x1), (2, .int x2), (3, .int x3), (4, .int x4)] → l_X4_lay_39 n S x1 x2 x3 x4 = some out → W p l e rm_X4_lay s m args below meth c H locs 0 0 (MQ below (QI shC idsC G A out) args s 0 0 A) (F0 m 39 ls []) := by
  intro n
  induction n with
  | zero =>
    intro S x1 x2 x3 x4 H locs ls hW hS hl h
    cases h
  | succ n Kb =>
    generalize hkb : l_X4_lay_39 n = kb at Kb
    intro S x1 x2 x3 x4 H locs ls hW hS hl h
    rw [show l_X4_lay_39 (n + 1) = b_X4_lay_39 (l_X4_lay_39 n) from rfl, hkb] at h
    unfold b_X4_lay_39 at h
    refine lv_iload F.1 F.2.1 dX4_lay_39 (lv_at hl 4 rfl) ?_
    refine lv_aload_n F.1 F.2.1 dX4_lay_41 rfl (lv_at hl 0 rfl) ?_
    refine rw_get (q0 := 5) F hK hW idC_5 rfl rfl in_X4_lay_X4 3 (by decide) lk_X4_lay_18 rfl dX4_lay_42 ?_
    by_cases c_7 : S 5 0 3 < 0
    · have h := (if_pos c_7).symm.trans h
      rw [rfn_null c_7]
      cases h
    · have h := (if_neg c_7).symm.trans h
      obtain ⟨b_8, h⟩ := gd_some h
      rw [rfn_ref c_7]
      refine rw_get (q0 := 9 + ((S 5 0 3).toNatClampNeg)) F hK hW (idC_8 _ (ix_lt b_8)) rfl rfl in_X4_lay_X0 1 (by decide) lk_X4_lay_46 rfl dX4_lay_45 ?_
      refine lv_icmp_ge (tgt := 251) F.1 F.2.1 dX4_lay_48 (by decide) (fun c_9 => ?_) (fun c_9 => ?_)
      · have h := (if_pos c_9).symm.trans h
        refine lv_iconst (v := -1) F.1 F.2.1 dX4_lay_251 (by decide) ?_
        exact rw_ret F hr hlk hK hW hS h dX4_lay_252
      · have h := (if_neg c_9).symm.trans h
        refine lv_aload_n F.1 F.2.1 dX4_lay_51 rfl (lv_at hl 0 rfl) ?_
        refine rw_get (q0 := 5) F hK hW idC_5 rfl rfl in_X4_lay_X4 3 (by decide) lk_X4_lay_18 rfl dX4_lay_52 ?_
        by_cases c_10 : S 5 0 3 < 0
        · have h := (if_pos c_10).symm.trans h
          rw [rfn_null c_10]
          cases h
        · have h := (if_neg c_10).symm.trans h
          obtain ⟨b_11, h⟩ := gd_some h
          rw [rfn_ref c_10]
          refine rw_get (q0 := 9 + ((S 5 0 3).toNatClampNeg)) F hK hW (idC_8 _ (ix_lt b_11)) rfl rfl in_X4_lay_X0 0 (by decide) lk_X4_lay_49 rfl dX4_lay_55 ?_
          refine lv_iload F.1 F.2.1 dX4_lay_58 (lv_at hl 4 rfl) ?_
          obtain ⟨b_12, h⟩ := gd_some h
          refine rw_iald (q0 := 64 + ((S 5 0 3).toNatClampNeg)) F hK hW (idC_36 _ (ix_lt b_11)) (fun _ => rfl) (ix_in b_12) dX4_lay_60 ?_
          refine lv_topi (fun v_13 ev_13 => ?_)
          have h := lt_n ev_13 h
          refine lv_istore (lv' := [(5, .int v_13), (0, .ref (G.2.2 5 0)), (1, .int x1), (2, .int x2), (3, .int x3), (4, .int x4)]) F.1 F.2.1 dX4_lay_61 hl (by decide) rfl (fun ls hl => ?_)
          obtain ⟨v_14, ev_14⟩ : ∃ y : Int32, y = x2 + (-1) := ⟨_, rfl⟩
          have h := lt_n ev_14 h
          refine lv_iinc (v := v_14) (lv' := [(2, .int v_14), (5, .int v_13), (0, .ref (G.2.2 5 0)), (1, .int x1), (3, .int x3), (4, .int x4)]) F.1 F.2.1 dX4_lay_63 hl (k := 3) rfl (by rw [ev_14]; rfl) (by decide) rfl (fun ls hl => ?_)
          refine lv_aload_n F.1 F.2.1 dX4_lay_66 rfl (lv_at hl 2 rfl) ?_
          refine rw_get (q0 := 5) F hK hW idC_5 rfl rfl in_X4_lay_X4 1 (by decide) lk_X4_lay_9 rfl dX4_lay_67 ?_
          refine lv_iload_n F.1 F.2.1 dX4_lay_70 rfl (lv_at hl 0 rfl) ?_
          obtain ⟨b_15, h⟩ := gd_some h
          refine rw_iald (q0 := 45) F hK hW idC_25 (fun _ => rfl) (ix_in b_15) dX4_lay_71 ?_
          refine lv_topi (fun v_16 ev_16 => ?_)
          have h := lt_n ev_16 h
          refine lv_istore (lv' := [(6, .int v_16), (2, .int v_14), (5, .int v_13), (0, .ref (G.2.2 5 0)), (1, .int x1), (3, .int x3), (4, .int x4)]) F.1 F.2.1 dX4_lay_72 hl (by decide) rfl (fun ls hl => ?_)
          refine lv_aload_n F.1 F.2.1 dX4_lay_74 rfl (lv_at hl 3 rfl) ?_
          refine lv_iload F.1 F.2.1 dX4_lay_75 (lv_at hl 2 rfl) ?_
          refine lv_iload F.1 F.2.1 dX4_lay_77 (lv_at hl 0 rfl) ?_
          refine lv_iload F.1 F.2.1 dX4_lay_79 (lv_at hl 6 rfl) ?_
          refine lv_if_ne (tgt := 88) F.1 F.2.1 dX4_lay_81 (by decide) (fun c_17 => ?_) (fun c_17 => ?_)
          · have h := (if_neg c_17).symm.trans h
            refine lv_iconst (v := 0) F.1 F.2.1 dX4_lay_88 (by decide) ?_
            exact w_X4_lay_89 F hr hlk hK out kb Kb _ _ _ _ _ _ _ _ _ _ _ _ _  hW hS (lv_sub hl [3, 4, 1, 5, 6, 2, 0] rfl) h
          · have h := (if_pos c_17).symm.trans h
            refine lv_iconst (v := 1) F.1 F.2.1 dX4_lay_84 (by decide) ?_
            refine lv_goto (tgt := 89) F.1 F.2.1 dX4_lay_85 (by decide) ?_
            exact w_X4_lay_89 F hr hlk hK out kb Kb _ _ _ _ _ _ _ _ _ _ _ _ _  hW hS (lv_sub hl [3, 4, 1, 5, 6, 2, 0] rfl) h
set_option maxHeartbeats 4000000 in
set_option maxRecDepth 100000 in
theorem c_X4_lay (l : Launch) (G : GT) (A : Nat → Prop) (a0 : Int32) (S : St) (out : Int32 × St) (h : f_X4_lay a0 S = some out) : Met l yX4_lay wsX4_lay rm_X4_lay (va_Pc [.ref (G.2.2 5 0), .int a0] (WD shC idsC G A S)) (QI shC idsC G A out) 0 0 A := by
  refine Met.ofW (cc := cX4_lay) (maxL := 8) (ret := (some .int)) (by decide) rfl ?_
  intro p e s m args below meth c s₁ B hml hv
  obtain ⟨rfl, hW, hK⟩ := hv
  have F : CallFix p m c cX4_lay 8 s _ wsX4_lay RX4 := ⟨B.exec, B.bytes, hml, findClass_of_methodNamed B.named, atoms_spec (ws := wsX4_lay) B.pre⟩
  have hr := B.returns
  have hlk := B.notSynchronized
  have hS : va_S A s.heap s.heap [] := va_S.rf
  have hl := lv_entry ([.ref (G.2.2 5 0), .int a0]) (n := 8) (Nat.le_of_ble_eq_true rfl)
  rw [lg_entry_eq]
  generalize (lg_sl ([.ref (G.2.2 5 0), .int a0]) ++ List.replicate (8 - (lg_sl ([.ref (G.2.2 5 0), .int a0])).length) Slot.unset).toArray = ls at hl ⊢
  have hl : lv_has ls 8 [(0, .ref (G.2.2 5 0)), (1, .int a0)] := hl
  unfold f_X4_lay at h
  refine lv_iconst (v := 0) F.1 F.2.1 dX4_lay_0 (by decide) ?_
  refine lv_istore_n (lv' := [(2, .int 0), (0, .ref (G.2.2 5 0)), (1, .int a0)]) F.1 F.2.1 dX4_lay_1 rfl hl (by decide) rfl (fun ls hl => ?_)
  refine w_X4_lay_2 F hr hlk hK out _ ?_ 5000 _ _ _ _ _ _  hW hS (lv_sub hl [1, 2, 0] rfl) h
  · intro S x1 H locs ls hW hS hl h
    refine lv_aload_n F.1 F.2.1 dX4_lay_22 rfl (lv_at hl 0 rfl) ?_
    refine rw_get (q0 := 5) F hK hW idC_5 rfl rfl in_X4_lay_X4 1 (by decide) lk_X4_lay_9 rfl dX4_lay_23 ?_
    refine lv_iconst (v := 0) F.1 F.2.1 dX4_lay_26 (by decide) ?_
    refine lv_aload_n F.1 F.2.1 dX4_lay_27 rfl (lv_at hl 0 rfl) ?_
    refine rw_get (q0 := 5) F hK hW idC_5 rfl rfl in_X4_lay_X4 4 (by decide) lk_X4_lay_22 rfl dX4_lay_28 ?_
    obtain ⟨b_5, h⟩ := gd_some h
    refine rw_iast ndC (q0 := 45) F hK hW hS idC_25 (fun _ => rfl) (ix_in b_5) dX4_lay_31 (fun H locs S_6 eS_6 hW hS => ?_)
    have h := lt_n eS_6 h
    refine lv_iconst (v := 1) F.1 F.2.1 dX4_lay_32 (by decide) ?_
    refine lv_istore_n (lv' := [(2, .int 1), (0, .ref (G.2.2 5 0)), (1, .int x1)]) F.1 F.2.1 dX4_lay_33 rfl hl (by decide) rfl (fun ls hl => ?_)
    refine lv_iconst (v := 0) F.1 F.2.1 dX4_lay_34 (by decide) ?_
    refine lv_istore_n (lv' := [(3, .int 0), (2, .int 1), (0, .ref (G.2.2 5 0)), (1, .int x1)]) F.1 F.2.1 dX4_lay_35 rfl hl (by decide) rfl (fun ls hl => ?_)
    refine lv_iconst (v := 0) F.1 F.2.1 dX4_lay_36 (by decide) ?_
    refine lv_istore (lv' := [(4, .int 0), (3, .int 0), (2, .int 1), (0, .ref (G.2.2 5 0)), (1, .int x1)]) F.1 F.2.1 dX4_lay_37 hl (by decide) rfl (fun ls hl => ?_)
    refine w_X4_lay_39 F hr hlk hK out   5000 _ _ _ _ _ _ _ _  hW hS (lv_sub hl [3, 4, 2, 1, 0] rfl) h
/-! CellCover$Matcher.next()Z -/
abbrev rm_X4_next : Room := { frames := 2, cells := 0, slots := 0, locals := 51 }
theorem in_X4_next_X4 : ∀ w ∈ wsX40, w ∈ wsX4_next := by decide +kernel
theorem in_X4_next_X0 : ∀ w ∈ wsX00, w ∈ wsX4_next := by decide +kernel
theorem lk_X4_next_18 : Cond.fieldLink RX4 18 "CellCover$Matcher" "cell" "LCellCover$Cell;" ∈ wsX4_next := by decide +kernel
theorem lk_X4_next_33 : Cond.fieldLink RX4 33 "CellCover$Cell" "nands" "I" ∈ wsX4_next := by decide +kernel
theorem lk_X4_next_26 : Cond.fieldLink RX4 26 "CellCover$Matcher" "turns" "I" ∈ wsX4_next := by decide +kernel
set_option maxHeartbeats 4000000 in
set_option maxRecDepth 100000 in
theorem w_X4_next_24 {p : Program} {l : Launch} {e : Env} {s : State} {m : MethodId} {args : Array Value} {below : List Frame} {meth : Method} {c : Code} {G : GT} {A : Nat → Prop} (F : CallFix p m c cX4_next 4 s args wsX4_next RX4) (hr : meth.sig.returnType = (some .boolean)) (hlk : meth.locks = false) (hK : va_K G.1 vwCl (tyl G) s) (out : Int32 × St) : ∀ n : Nat, ∀ (S : St) (x1 : Int32) (x2 : Int32) (H : Heap) (locs : List Loc) (ls : Array Slot), Wd shC idsC G A S H → va_S A s.heap H locs → lv_has ls 4 [(0, .ref (G.2.2 5 0)), (1, .int x1), (2, .int x2)] → l_X4_next_24 n S x1 x2 = some out → W p l e rm_X4_next s m args below meth c H locs 0 0 (MQ below (QI shC idsC G A out) args s 0 0 A) (F0 m 24 ls []) := by
  intro n
  induction n with
  | zero =>
    intro S x1 x2 H locs ls hW hS hl h
    cases h
  | succ n Kb =>
    generalize hkb : l_X4_next_24 n = kb at Kb
    intro S x1 x2 H locs ls hW hS hl h
    rw [show l_X4_next_24 (n + 1) = b_X4_next_24 (l_X4_next_24 n) from rfl, hkb] at h
    unfold b_X4_next_24 at h
    refine lv_iload_n F.1 F.2.1 dX4_next_24 rfl (lv_at hl 2 rfl) ?_
    refine lv_iload_n F.1 F.2.1 dX4_next_25 rfl (lv_at hl 1 rfl) ?_
    refine lv_icmp_ge (tgt := 71) F.1 F.2.1 dX4_next_26 (by decide) (fun c_7 => ?_) (fun c_7 => ?_)
    · have h := (if_pos c_7).symm.trans h
      refine lv_aload_n F.1 F.2.1 dX4_next_71 rfl (lv_at hl 0 rfl) ?_
      refine lv_iload_n F.1 F.2.1 dX4_next_72 rfl (lv_at hl 1 rfl) ?_
      refine rw_put ndC (q0 := 5) (x := x1) F hK hW hS idC_5 rfl rfl in_X4_next_X4 tyX4 tyX4_ok nmX4 5 (by decide) lk_X4_next_26 rfl (ty := .int) (by decide +kernel) rfl rfl (Nat.le_of_ble_eq_true rfl) rfl dX4_next_73 (fun H locs S_8 eS_8 hW hS => ?_)
      have h := lt_n eS_8 h
      refine lv_iconst (v := 0) F.1 F.2.1 dX4_next_76 (by decide) ?_
      exact rw_retz F hr hlk hK hW hS (by decide) h dX4_next_77
    · have h := (if_neg c_7).symm.trans h
      refine lv_aload_n F.1 F.2.1 dX4_next_29 rfl (lv_at hl 0 rfl) ?_
      refine lv_iload_n F.1 F.2.1 dX4_next_30 rfl (lv_at hl 2 rfl) ?_
      obtain ⟨r_10, S_11, hq_9, h⟩ := bi_some h
      refine rw_vi F hK hW hS [.int x2] (rest := []) (c_X4_lay l G A x2 S (r_10, S_11) hq_9) (cwV 1 F.2.2.2.2 gX4_next_X4_lay rfl rfl rfl (by decide +kernel) ⟨Nat.le_of_ble_eq_true rfl, Nat.le_of_ble_eq_true rfl⟩) (rw_recv (q0 := 5) hK hW idC_5 rfl rfl) rfl hl.1 rfl (Nat.le_of_ble_eq_true rfl) dX4_next_31 (fun H locs hW hS => ?_)
      refine lv_istore_n (lv' := [(3, .int r_10), (0, .ref (G.2.2 5 0)), (1, .int x1), (2, .int x2)]) F.1 F.2.1 dX4_next_34 rfl hl (by decide) rfl (fun ls hl => ?_)
      refine lv_iload_n F.1 F.2.1 dX4_next_35 rfl (lv_at hl 0 rfl) ?_
      refine lv_iconst (v := -1) F.1 F.2.1 dX4_next_36 (by decide) ?_
      refine lv_icmp_ne (tgt := 49) F.1 F.2.1 dX4_next_37 (by decide) (fun c_12 => ?_) (fun c_12 => ?_)
      · have h := (if_neg c_12).symm.trans h
        refine lv_iload_n F.1 F.2.1 dX4_next_49 rfl (lv_at hl 3 rfl) ?_
        refine lv_iconst (v := 1) F.1 F.2.1 dX4_next_50 (by decide) ?_
        refine lv_aload_n F.1 F.2.1 dX4_next_51 rfl (lv_at hl 1 rfl) ?_
        refine rw_get (q0 := 5) F hK hW idC_5 rfl rfl in_X4_next_X4 3 (by decide) lk_X4_next_18 rfl dX4_next_52 ?_
        by_cases c_13 : S_11 5 0 3 < 0
        · have h := (if_pos c_13).symm.trans h
          rw [rfn_null c_13]
          cases h
        · have h := (if_neg c_13).symm.trans h
          obtain ⟨b_14, h⟩ := gd_some h
          rw [rfn_ref c_13]
          refine rw_get (q0 := 9 + ((S_11 5 0 3).toNatClampNeg)) F hK hW (idC_8 _ (ix_lt b_14)) rfl rfl in_X4_next_X0 2 (by decide) lk_X4_next_33 rfl dX4_next_55 ?_
          refine lv_iload_n F.1 F.2.1 dX4_next_58 rfl (lv_at hl 0 rfl) ?_
          refine lv_isub F.1 F.2.1 dX4_next_59 ?_
          refine lv_ishl F.1 F.2.1 dX4_next_60 ?_
          refine lv_iconst (v := 1) F.1 F.2.1 dX4_next_61 (by decide) ?_
          refine lv_isub F.1 F.2.1 dX4_next_62 ?_
          refine lv_ior F.1 F.2.1 dX4_next_63 ?_
          refine lv_topi (fun v_15 ev_15 => ?_)
          have h := lt_n ev_15 h
          refine lv_istore_n (lv' := [(2, .int v_15), (3, .int r_10), (0, .ref (G.2.2 5 0)), (1, .int x1)]) F.1 F.2.1 dX4_next_64 rfl hl (by decide) rfl (fun ls hl => ?_)
          obtain ⟨v_16, ev_16⟩ : ∃ y : Int32, y = v_15 + 1 := ⟨_, rfl⟩
          have h := lt_n ev_16 h
          refine lv_iinc (v := v_16) (lv' := [(2, .int v_16), (3, .int r_10), (0, .ref (G.2.2 5 0)), (1, .int x1)]) F.1 F.2.1 dX4_next_65 hl (k := 0) rfl (by rw [ev_16]; rfl) (by decide) rfl (fun ls hl => ?_)
          refine lv_goto (tgt := 24) F.1 F.2.1 dX4_next_68 (by decide) ?_
          exact Kb _ _ _ _ _ _  hW hS (lv_sub hl [2, 3, 0] rfl) h
      · have h := (if_pos c_12).symm.trans h
        refine lv_aload_n F.1 F.2.1 dX4_next_40 rfl (lv_at hl 1 rfl) ?_
        refine lv_iload_n F.1 F.2.1 dX4_next_41 rfl (lv_at hl 3 rfl) ?_
        refine lv_iconst (v := 1) F.1 F.2.1 dX4_next_42 (by decide) ?_
        refine lv_iadd F.1 F.2.1 dX4_next_43 ?_
        refine rw_put ndC (q0 := 5) (x := x2 + 1) F hK hW hS idC_5 rfl rfl in_X4_next_X4 tyX4 tyX4_ok nmX4 5 (by decide) lk_X4_next_26 rfl (ty := .int) (by decide +kernel) rfl rfl (Nat.le_of_ble_eq_true rfl) rfl dX4_next_44 (fun H locs S_17 eS_17 hW hS => ?_)
        have h := lt_n eS_17 h
        refine lv_iconst (v := 1) F.1 F.2.1 dX4_next_47 (by decide) ?_
        exact rw_retz F hr hlk hK hW hS (by decide) h dX4_next_48
set_option maxHeartbeats 4000000 in
set_option maxRecDepth 100000 in
theorem c_X4_next (l : Launch) (G : GT) (A : Nat → Prop) (S : St) (out : Int32 × St) (h : f_X4_next S = some out) : Met l yX4_next wsX4_next rm_X4_next (va_Pc [.ref (G.2.2 5 0)] (WD shC idsC G A S)) (QI shC idsC G A out) 0 0 A := by
  refine Met.ofW (cc := cX4_next) (maxL := 4) (ret := (some .boolean)) (by decide) rfl ?_
  intro p e s m args below meth c s₁ B hml hv
  obtain ⟨rfl, hW, hK⟩ := hv
  have F : CallFix p m c cX4_next 4 s _ wsX4_next RX4 := ⟨B.exec, B.bytes, hml, findClass_of_methodNamed B.named, atoms_spec (ws := wsX4_next) B.pre⟩
  have hr := B.returns
  have hlk := B.notSynchronized
  have hS : va_S A s.heap s.heap [] := va_S.rf
  have hl := lv_entry ([.ref (G.2.2 5 0)]) (n := 4) (Nat.le_of_ble_eq_true rfl)
  rw [lg_entry_eq]
  generalize (lg_sl ([.ref (G.2.2 5 0)]) ++ List.replicate (4 - (lg_sl ([.ref (G.2.2 5 0)])).length) Slot.unset).toArray = ls at hl ⊢
  have hl : lv_has ls 4 [(0, .ref (G.2.2 5 0))] := hl
  unfold f_X4_next at h
  refine lv_aload_n F.1 F.2.1 dX4_next_0 rfl (lv_at hl 0 rfl) ?_
  refine rw_get (q0 := 5) F hK hW idC_5 rfl rfl in_X4_next_X4 3 (by decide) lk_X4_next_18 rfl dX4_next_1 ?_
  by_cases c_1 : S 5 0 3 < 0
  · have h := (if_pos c_1).symm.trans h
    rw [rfn_null c_1]
    refine lv_ifnonnullN F.1 F.2.1 dX4_next_4 ?_
    refine lv_iconst (v := 0) F.1 F.2.1 dX4_next_7 (by decide) ?_
    exact rw_retz F hr hlk hK hW hS (by decide) h dX4_next_8
  · have h := (if_neg c_1).symm.trans h
    obtain ⟨b_2, h⟩ := gd_some h
    rw [rfn_ref c_1]
    refine lv_ifnonnull (tgt := 9) F.1 F.2.1 dX4_next_4 (by decide) ?_
    refine lv_iconst (v := 1) F.1 F.2.1 dX4_next_9 (by decide) ?_
    refine lv_aload_n F.1 F.2.1 dX4_next_10 rfl (lv_at hl 0 rfl) ?_
    refine rw_get (q0 := 5) F hK hW idC_5 rfl rfl in_X4_next_X4 3 (by decide) lk_X4_next_18 rfl dX4_next_11 ?_
    by_cases c_3 : S 5 0 3 < 0
    · have h := (if_pos c_3).symm.trans h
      rw [rfn_null c_3]
      cases h
    · have h := (if_neg c_3).symm.trans h
      obtain ⟨b_4, h⟩ := gd_some h
      rw [rfn_ref c_3]
      refine rw_get (q0 := 9 + ((S 5 0 3).toNatClampNeg)) F hK hW (idC_8 _ (ix_lt b_4)) rfl rfl in_X4_next_X0 2 (by decide) lk_X4_next_33 rfl dX4_next_14 ?_
      refine lv_ishl F.1 F.2.1 dX4_next_17 ?_
      refine lv_topi (fun v_5 ev_5 => ?_)
      have h := lt_n ev_5 h
      refine lv_istore_n (lv' := [(1, .int v_5), (0, .ref (G.2.2 5 0))]) F.1 F.2.1 dX4_next_18 rfl hl (by decide) rfl (fun ls hl => ?_)
      refine lv_aload_n F.1 F.2.1 dX4_next_19 rfl (lv_at hl 1 rfl) ?_
      refine rw_get (q0 := 5) F hK hW idC_5 rfl rfl in_X4_next_X4 5 (by decide) lk_X4_next_26 rfl dX4_next_20 ?_
      refine lv_topi (fun v_6 ev_6 => ?_)
      have h := lt_n ev_6 h
      refine lv_istore_n (lv' := [(2, .int v_6), (1, .int v_5), (0, .ref (G.2.2 5 0))]) F.1 F.2.1 dX4_next_23 rfl hl (by decide) rfl (fun ls hl => ?_)
      refine w_X4_next_24 F hr hlk hK out   5000 _ _ _ _ _ _  hW hS (lv_sub hl [2, 1, 0] rfl) h
/-! CellCover$Matcher.countRest()I -/
abbrev rm_X4_countRest : Room := { frames := 3, cells := 0, slots := 0, locals := 74 }
set_option maxHeartbeats 4000000 in
set_option maxRecDepth 100000 in
theorem w_X4_countRest_2 {p : Program} {l : Launch} {e : Env} {s : State} {m : MethodId} {args : Array Value} {below : List Frame} {meth : Method} {c : Code} {G : GT} {A : Nat → Prop} (F : CallFix p m c cX4_countRest 2 s args wsX4_countRest RX4) (hr : meth.sig.returnType = (some .int)) (hlk : meth.locks = false) (hK : va_K G.1 vwCl (tyl G) s) (out : Int32 × St) : ∀ n : Nat, ∀ (S : St) (x1 : Int32) (H : Heap) (locs : List Loc) (ls : Array Slot), Wd shC idsC G A S H → va_S A s.heap H locs → lv_has ls 2 [(0, .ref (G.2.2 5 0)), (1, .int x1)] → l_X4_countRest_2 n S x1 = some out → W p l e rm_X4_countRest s m args below meth c H locs 0 0 (MQ below (QI shC idsC G A out) args s 0 0 A) (F0 m 2 ls []) := by
  intro n
  induction n with
  | zero =>
    intro S x1 H locs ls hW hS hl h
    cases h
  | succ n Kb =>
    generalize hkb : l_X4_countRest_2 n = kb at Kb
    intro S x1 H locs ls hW hS hl h
    rw [show l_X4_countRest_2 (n + 1) = b_X4_countRest_2 (l_X4_countRest_2 n) from rfl, hkb] at h
    unfold b_X4_countRest_2 at h
    refine lv_iload_n F.1 F.2.1 dX4_countRest_2 rfl (lv_at hl 1 rfl) ?_
    refine lv_sipush (v := 4096) F.1 F.2.1 dX4_countRest_3 (by decide) ?_
    refine lv_icmp_ge (tgt := 22) F.1 F.2.1 dX4_countRest_6 (by decide) (fun c_1 => ?_) (fun c_1 => ?_)
    · have h := (if_pos c_1).symm.trans h
      refine lv_iload_n F.1 F.2.1 dX4_countRest_22 rfl (lv_at hl 1 rfl) ?_
      exact rw_ret F hr hlk hK hW hS h dX4_countRest_23
    · have h := (if_neg c_1).symm.trans h
      refine lv_aload_n F.1 F.2.1 dX4_countRest_9 rfl (lv_at hl 0 rfl) ?_
      obtain ⟨r_3, S_4, hq_2, h⟩ := bi_some h
      refine rw_vi F hK hW hS [] (rest := []) (c_X4_next l G A  S (r_3, S_4) hq_2) (cwV 0 F.2.2.2.2 gX4_countRest_X4_next rfl rfl rfl (by decide +kernel) ⟨Nat.le_of_ble_eq_true rfl, Nat.le_of_ble_eq_true rfl⟩) (rw_recv (q0 := 5) hK hW idC_5 rfl rfl) rfl hl.1 rfl (Nat.le_of_ble_eq_true rfl) dX4_countRest_10 (fun H locs hW hS => ?_)
      refine lv_if_eq (tgt := 22) F.1 F.2.1 dX4_countRest_13 (by decide) (fun c_5 => ?_) (fun c_5 => ?_)
      · have h := (if_pos c_5).symm.trans h
        refine lv_iload_n F.1 F.2.1 dX4_countRest_22 rfl (lv_at hl 1 rfl) ?_
        exact rw_ret F hr hlk hK hW hS h dX4_countRest_23
      · have h := (if_neg c_5).symm.trans h
        obtain ⟨v_6, ev_6⟩ : ∃ y : Int32, y = x1 + 1 := ⟨_, rfl⟩
        have h := lt_n ev_6 h
        refine lv_iinc (v := v_6) (lv' := [(1, .int v_6), (0, .ref (G.2.2 5 0))]) F.1 F.2.1 dX4_countRest_16 hl (k := 1) rfl (by rw [ev_6]; rfl) (by decide) rfl (fun ls hl => ?_)
        refine lv_goto (tgt := 2) F.1 F.2.1 dX4_countRest_19 (by decide) ?_
        exact Kb _ _ _ _ _  hW hS (lv_sub hl [1, 0] rfl) h
set_option maxHeartbeats 4000000 in
set_option maxRecDepth 100000 in
theorem c_X4_countRest (l : Launch) (G : GT) (A : Nat → Prop) (S : St) (out : Int32 × St) (h : f_X4_countRest S = some out) : Met l yX4_countRest wsX4_countRest rm_X4_countRest (va_Pc [.ref (G.2.2 5 0)] (WD shC idsC G A S)) (QI shC idsC G A out) 0 0 A := by
  refine Met.ofW (cc := cX4_countRest) (maxL := 2) (ret := (some .int)) (by decide) rfl ?_
  intro p e s m args below meth c s₁ B hml hv
  obtain ⟨rfl, hW, hK⟩ := hv
  have F : CallFix p m c cX4_countRest 2 s _ wsX4_countRest RX4 := ⟨B.exec, B.bytes, hml, findClass_of_methodNamed B.named, atoms_spec (ws := wsX4_countRest) B.pre⟩
  have hr := B.returns
  have hlk := B.notSynchronized
  have hS : va_S A s.heap s.heap [] := va_S.rf
  have hl := lv_entry ([.ref (G.2.2 5 0)]) (n := 2) (Nat.le_of_ble_eq_true rfl)
  rw [lg_entry_eq]
  generalize (lg_sl ([.ref (G.2.2 5 0)]) ++ List.replicate (2 - (lg_sl ([.ref (G.2.2 5 0)])).length) Slot.unset).toArray = ls at hl ⊢
  have hl : lv_has ls 2 [(0, .ref (G.2.2 5 0))] := hl
  unfold f_X4_countRest at h
  refine lv_iconst (v := 0) F.1 F.2.1 dX4_countRest_0 (by decide) ?_
  refine lv_istore_n (lv' := [(1, .int 0), (0, .ref (G.2.2 5 0))]) F.1 F.2.1 dX4_countRest_1 rfl hl (by decide) rfl (fun ls hl => ?_)
  refine w_X4_countRest_2 F hr hlk hK out   5000 _ _ _ _ _  hW hS (lv_sub hl [1, 0] rfl) h
/-! CellCover.matches(II)I -/
abbrev rm_X8_matches : Room := { frames := 4, cells := 0, slots := 0, locals := 95 }
theorem in_X8_matches_X8 : ∀ w ∈ wsX80, w ∈ wsX8_matches := by decide +kernel
theorem in_X8_matches_X3 : ∀ w ∈ wsX30, w ∈ wsX8_matches := by decide +kernel
theorem lk_X8_matches_33 : Cond.fieldLink RX8 33 "CellCover" "library" "LCellCover$Library;" ∈ wsX8_matches := by decide +kernel
theorem lk_X8_matches_12 : Cond.fieldLink RX8 12 "CellCover" "vertices" "LCellCover$Vertices;" ∈ wsX8_matches := by decide +kernel
theorem lk_X8_matches_42 : Cond.fieldLink RX8 42 "CellCover" "matcher" "LCellCover$Matcher;" ∈ wsX8_matches := by decide +kernel
theorem lk_X8_matches_125 : Cond.fieldLink RX8 125 "CellCover$Library" "cells" "[LCellCover$Cell;" ∈ wsX8_matches := by decide +kernel
set_option maxHeartbeats 4000000 in
set_option maxRecDepth 100000 in
theorem w_X8_matches_22 {p : Program} {l : Launch} {e : Env} {s : State} {m : MethodId} {args : Array Value} {below : List Frame} {meth : Method} {c : Code} {G : GT} {A : Nat → Prop} (F : CallFix p m c cX8_matches 3 s args wsX8_matches RX8) (hr : meth.sig.returnType = (some .int)) (hlk : meth.locks = false) (hK : va_K G.1 vwCl (tyl G) s) (out : Int32 × St) : ∀ (S : St) (H : Heap) (locs : List Loc) (ls : Array Slot), Wd shC idsC G A S H → va_S A s.heap H locs → lv_has ls 3 [] → j_X8_matches_22 S = some out → W p l e rm_X8_matches s m args below meth c H locs 0 0 (MQ below (QI shC idsC G A out) args s 0 0 A) (F0 m 22 ls []) := by
  intro S H locs ls hW hS hl h
  unfold j_X8_matches_22 at h
  refine lv_iconst (v := -1) F.1 F.2.1 dX8_matches_22 (by decide) ?_
  exact rw_ret F hr hlk hK hW hS h dX8_matches_23
set_option maxHeartbeats 4000000 in
set_option maxRecDepth 100000 in
theorem c_X8_matches (l : Launch) (G : GT) (A : Nat → Prop) (a0 : Int32) (a1 : Int32) (S : St) (out : Int32 × St) (h : f_X8_matches a0 a1 S = some out) : Met l yX8_matches wsX8_matches rm_X8_matches (va_Pc [.ref (G.2.2 0 0), .int a0, .int a1] (WD shC idsC G A S)) (QI shC idsC G A out) 0 0 A := by
  refine Met.ofW (cc := cX8_matches) (maxL := 3) (ret := (some .int)) (by decide) rfl ?_
  intro p e s m args below meth c s₁ B hml hv
  obtain ⟨rfl, hW, hK⟩ := hv
  have F : CallFix p m c cX8_matches 3 s _ wsX8_matches RX8 := ⟨B.exec, B.bytes, hml, findClass_of_methodNamed B.named, atoms_spec (ws := wsX8_matches) B.pre⟩
  have hr := B.returns
  have hlk := B.notSynchronized
  have hS : va_S A s.heap s.heap [] := va_S.rf
  have hl := lv_entry ([.ref (G.2.2 0 0), .int a0, .int a1]) (n := 3) (Nat.le_of_ble_eq_true rfl)
  rw [lg_entry_eq]
  generalize (lg_sl ([.ref (G.2.2 0 0), .int a0, .int a1]) ++ List.replicate (3 - (lg_sl ([.ref (G.2.2 0 0), .int a0, .int a1])).length) Slot.unset).toArray = ls at hl ⊢
  have hl : lv_has ls 3 [(0, .ref (G.2.2 0 0)), (1, .int a0), (2, .int a1)] := hl
  unfold f_X8_matches at h
  refine lv_aload_n F.1 F.2.1 dX8_matches_0 rfl (lv_at hl 0 rfl) ?_
  refine rw_get (q0 := 0) F hK hW idC_0 rfl rfl in_X8_matches_X8 3 (by decide) lk_X8_matches_33 rfl dX8_matches_1 ?_
  refine lv_iload_n F.1 F.2.1 dX8_matches_4 rfl (lv_at hl 1 rfl) ?_
  obtain ⟨r_2, S_3, hq_1, h⟩ := bi_some h
  refine rw_vi F hK hW hS [.int a0] (rest := []) (c_X3_has l G A a0 S (r_2, S_3) hq_1) (cwV 1 F.2.2.2.2 gX8_matches_X3_has rfl rfl rfl (by decide +kernel) ⟨Nat.le_of_ble_eq_true rfl, Nat.le_of_ble_eq_true rfl⟩) (rw_recv (q0 := 4) hK hW idC_4 rfl rfl) rfl hl.1 rfl (Nat.le_of_ble_eq_true rfl) dX8_matches_5 (fun H locs hW hS => ?_)
  refine lv_if_eq (tgt := 22) F.1 F.2.1 dX8_matches_8 (by decide) (fun c_4 => ?_) (fun c_4 => ?_)
  · have h := (if_pos c_4).symm.trans h
    exact w_X8_matches_22 F hr hlk hK out  _ _ _ _  hW hS (lv_sub hl [] rfl) h
  · have h := (if_neg c_4).symm.trans h
    refine lv_aload_n F.1 F.2.1 dX8_matches_11 rfl (lv_at hl 0 rfl) ?_
    refine rw_get (q0 := 0) F hK hW idC_0 rfl rfl in_X8_matches_X8 0 (by decide) lk_X8_matches_12 rfl dX8_matches_12 ?_
    refine lv_iload_n F.1 F.2.1 dX8_matches_15 rfl (lv_at hl 2 rfl) ?_
    obtain ⟨r_6, S_7, hq_5, h⟩ := bi_some h
    refine rw_vi F hK hW hS [.int a1] (rest := []) (c_X7_isAlive l G A a1 S_3 (r_6, S_7) hq_5) (cwV 1 F.2.2.2.2 gX8_matches_X7_isAlive rfl rfl rfl (by decide +kernel) ⟨Nat.le_of_ble_eq_true rfl, Nat.le_of_ble_eq_true rfl⟩) (rw_recv (q0 := 1) hK hW idC_1 rfl rfl) rfl hl.1 rfl (Nat.le_of_ble_eq_true rfl) dX8_matches_16 (fun H locs hW hS => ?_)
    refine lv_if_ne (tgt := 24) F.1 F.2.1 dX8_matches_19 (by decide) (fun c_8 => ?_) (fun c_8 => ?_)
    · have h := (if_neg c_8).symm.trans h
      refine lv_aload_n F.1 F.2.1 dX8_matches_24 rfl (lv_at hl 0 rfl) ?_
      refine rw_get (q0 := 0) F hK hW idC_0 rfl rfl in_X8_matches_X8 4 (by decide) lk_X8_matches_42 rfl dX8_matches_25 ?_
      refine lv_aload_n F.1 F.2.1 dX8_matches_28 rfl (lv_at hl 0 rfl) ?_
      refine rw_get (q0 := 0) F hK hW idC_0 rfl rfl in_X8_matches_X8 3 (by decide) lk_X8_matches_33 rfl dX8_matches_29 ?_
      refine rw_get (q0 := 4) F hK hW idC_4 rfl rfl in_X8_matches_X3 0 (by decide) lk_X8_matches_125 rfl dX8_matches_32 ?_
      refine lv_iload_n F.1 F.2.1 dX8_matches_35 rfl (lv_at hl 1 rfl) ?_
      obtain ⟨b_9, h⟩ := gd_some h
      refine rw_aald (q0 := 44) F hK hW idC_24 (fun _ => rfl) (ix_in b_9) dX8_matches_36 ?_
      refine lv_iload_n F.1 F.2.1 dX8_matches_37 rfl (lv_at hl 2 rfl) ?_
      obtain ⟨q_10, hq_10, h⟩ := bv_some h
      refine rw_vv F hK hW hS [.ref (G.2.2 8 a0.toNatClampNeg), .int a1] (rest := []) (c_X4_begin l G A a0.toNatClampNeg a1 (ix_lt b_9) S_7 q_10 hq_10) (cwV 2 F.2.2.2.2 gX8_matches_X4_begin rfl rfl rfl (by decide +kernel) ⟨Nat.le_of_ble_eq_true rfl, Nat.le_of_ble_eq_true rfl⟩) (rw_recv (q0 := 5) hK hW idC_5 rfl rfl) rfl hl.1 rfl (Nat.le_of_ble_eq_true rfl) dX8_matches_38 (fun H locs hW hS => ?_)
      refine lv_aload_n F.1 F.2.1 dX8_matches_41 rfl (lv_at hl 0 rfl) ?_
      refine rw_get (q0 := 0) F hK hW idC_0 rfl rfl in_X8_matches_X8 4 (by decide) lk_X8_matches_42 rfl dX8_matches_42 ?_
      obtain ⟨r_13, S_14, hq_12, h⟩ := bi_some h
      refine rw_vi F hK hW hS [] (rest := []) (c_X4_countRest l G A  q_10 (r_13, S_14) hq_12) (cwV 0 F.2.2.2.2 gX8_matches_X4_countRest rfl rfl rfl (by decide +kernel) ⟨Nat.le_of_ble_eq_true rfl, Nat.le_of_ble_eq_true rfl⟩) (rw_recv (q0 := 5) hK hW idC_5 rfl rfl) rfl hl.1 rfl (Nat.le_of_ble_eq_true rfl) dX8_matches_45 (fun H locs hW hS => ?_)
      exact rw_ret F hr hlk hK hW hS h dX8_matches_48
    · have h := (if_pos c_8).symm.trans h
      exact w_X8_matches_22 F hr hlk hK out  _ _ _ _  hW hS (lv_sub hl [] rfl) h
/-! CellCover$Matcher.skipTo(I)Z -/
abbrev rm_X4_skipTo : Room := { frames := 3, cells := 0, slots := 0, locals := 74 }
set_option maxHeartbeats 4000000 in
set_option maxRecDepth 100000 in
theorem w_X4_skipTo_19 {p : Program} {l : Launch} {e : Env} {s : State} {m : MethodId} {args : Array Value} {below : List Frame} {meth : Method} {c : Code} {G : GT} {A : Nat → Prop} (F : CallFix p m c cX4_skipTo 4 s args wsX4_skipTo RX4) (hr : meth.sig.returnType = (some .boolean)) (hlk : meth.locks = false) (hK : va_K G.1 vwCl (tyl G) s) (out : Int32 × St) : ∀ n : Nat, ∀ (S : St) (x1 : Int32) (x2 : Int32) (x3 : Int32) (H : Heap) (locs : List Loc) (ls : Array Slot), Wd shC idsC G A S H → va_S A s.heap H locs → lv_has ls 4 [(0, .ref (G.2.2 5 0)), (1, .int x1), (2, .int x2), (3, .int x3)] → l_X4_skipTo_19 n S x1 x2 x3 = some out → W p l e rm_X4_skipTo s m args below meth c H locs 0 0 (MQ below (QI shC idsC G A out) args s 0 0 A) (F0 m 19 ls []) := by
  intro n
  induction n with
  | zero =>
    intro S x1 x2 x3 H locs ls hW hS hl h
    cases h
  | succ n Kb =>
    generalize hkb : l_X4_skipTo_19 n = kb at Kb
    intro S x1 x2 x3 H locs ls hW hS hl h
    rw [show l_X4_skipTo_19 (n + 1) = b_X4_skipTo_19 (l_X4_skipTo_19 n) from rfl, hkb] at h
    unfold b_X4_skipTo_19 at h
    refine lv_iload_n F.1 F.2.1 dX4_skipTo_19 rfl (lv_at hl 3 rfl) ?_
    refine lv_iload_n F.1 F.2.1 dX4_skipTo_20 rfl (lv_at hl 1 rfl) ?_
    refine lv_icmp_gt (tgt := 39) F.1 F.2.1 dX4_skipTo_21 (by decide) (fun c_2 => ?_) (fun c_2 => ?_)
    · have h := (if_pos c_2).symm.trans h
      refine lv_iload_n F.1 F.2.1 dX4_skipTo_39 rfl (lv_at hl 2 rfl) ?_
      obtain ⟨b_3, h⟩ := gd_some h
      exact rw_retz F hr hlk hK hW hS b_3 h dX4_skipTo_40
    · have h := (if_neg c_2).symm.trans h
      refine lv_iload_n F.1 F.2.1 dX4_skipTo_24 rfl (lv_at hl 2 rfl) ?_
      refine lv_if_eq (tgt := 39) F.1 F.2.1 dX4_skipTo_25 (by decide) (fun c_4 => ?_) (fun c_4 => ?_)
      · have h := (if_pos c_4).symm.trans h
        refine lv_iload_n F.1 F.2.1 dX4_skipTo_39 rfl (lv_at hl 2 rfl) ?_
        obtain ⟨b_5, h⟩ := gd_some h
        exact rw_retz F hr hlk hK hW hS b_5 h dX4_skipTo_40
      · have h := (if_neg c_4).symm.trans h
        refine lv_aload_n F.1 F.2.1 dX4_skipTo_28 rfl (lv_at hl 0 rfl) ?_
        obtain ⟨r_7, S_8, hq_6, h⟩ := bi_some h
        refine rw_vi F hK hW hS [] (rest := []) (c_X4_next l G A  S (r_7, S_8) hq_6) (cwV 0 F.2.2.2.2 gX4_skipTo_X4_next rfl rfl rfl (by decide +kernel) ⟨Nat.le_of_ble_eq_true rfl, Nat.le_of_ble_eq_true rfl⟩) (rw_recv (q0 := 5) hK hW idC_5 rfl rfl) rfl hl.1 rfl (Nat.le_of_ble_eq_true rfl) dX4_skipTo_29 (fun H locs hW hS => ?_)
        refine lv_istore_n (lv' := [(2, .int r_7), (0, .ref (G.2.2 5 0)), (1, .int x1), (3, .int x3)]) F.1 F.2.1 dX4_skipTo_32 rfl hl (by decide) rfl (fun ls hl => ?_)
        obtain ⟨v_9, ev_9⟩ : ∃ y : Int32, y = x3 + 1 := ⟨_, rfl⟩
        have h := lt_n ev_9 h
        refine lv_iinc (v := v_9) (lv' := [(3, .int v_9), (2, .int r_7), (0, .ref (G.2.2 5 0)), (1, .int x1)]) F.1 F.2.1 dX4_skipTo_33 hl (k := 3) rfl (by rw [ev_9]; rfl) (by decide) rfl (fun ls hl => ?_)
        refine lv_goto (tgt := 19) F.1 F.2.1 dX4_skipTo_36 (by decide) ?_
        exact Kb _ _ _ _ _ _ _  hW hS (lv_sub hl [2, 3, 1, 0] rfl) h
set_option maxHeartbeats 4000000 in
set_option maxRecDepth 100000 in
theorem w_X4_skipTo_16 {p : Program} {l : Launch} {e : Env} {s : State} {m : MethodId} {args : Array Value} {below : List Frame} {meth : Method} {c : Code} {G : GT} {A : Nat → Prop} (F : CallFix p m c cX4_skipTo 4 s args wsX4_skipTo RX4) (hr : meth.sig.returnType = (some .boolean)) (hlk : meth.locks = false) (hK : va_K G.1 vwCl (tyl G) s) (out : Int32 × St) : ∀ (S : St) (x1 : Int32) (y0 : Int32) (H : Heap) (locs : List Loc) (ls : Array Slot), Wd shC idsC G A S H → va_S A s.heap H locs → lv_has ls 4 [(0, .ref (G.2.2 5 0)), (1, .int x1)] → j_X4_skipTo_16 S x1 y0 = some out → W p l e rm_X4_skipTo s m args below meth c H locs 0 0 (MQ below (QI shC idsC G A out) args s 0 0 A) (F0 m 16 ls [.int y0]) := by
  intro S x1 y0 H locs ls hW hS hl h
  unfold j_X4_skipTo_16 at h
  refine lv_istore_n (lv' := [(2, .int y0), (0, .ref (G.2.2 5 0)), (1, .int x1)]) F.1 F.2.1 dX4_skipTo_16 rfl hl (by decide) rfl (fun ls hl => ?_)
  refine lv_iconst (v := 0) F.1 F.2.1 dX4_skipTo_17 (by decide) ?_
  refine lv_istore_n (lv' := [(3, .int 0), (2, .int y0), (0, .ref (G.2.2 5 0)), (1, .int x1)]) F.1 F.2.1 dX4_skipTo_18 rfl hl (by decide) rfl (fun ls hl => ?_)
  refine w_X4_skipTo_19 F hr hlk hK out   5000 _ _ _ _ _ _ _  hW hS (lv_sub hl [2, 3, 1, 0] rfl) h
set_option maxHeartbeats 4000000 in
set_option maxRecDepth 100000 in
theorem w_X4_skipTo_15 {p : Program} {l : Launch} {e : Env} {s : State} {m : MethodId} {args : Array Value} {below : List Frame} {meth : Method} {c : Code} {G : GT} {A : Nat → Prop} (F : CallFix p m c cX4_skipTo 4 s args wsX4_skipTo RX4) (hr : meth.sig.returnType = (some .boolean)) (hlk : meth.locks = false) (hK : va_K G.1 vwCl (tyl G) s) (out : Int32 × St) : ∀ (S : St) (x1 : Int32) (H : Heap) (locs : List Loc) (ls : Array Slot), Wd shC idsC G A S H → va_S A s.heap H locs → lv_has ls 4 [(0, .ref (G.2.2 5 0)), (1, .int x1)] → j_X4_skipTo_15 S x1 = some out → W p l e rm_X4_skipTo s m args below meth c H locs 0 0 (MQ below (QI shC idsC G A out) args s 0 0 A) (F0 m 15 ls []) := by
  intro S x1 H locs ls hW hS hl h
  unfold j_X4_skipTo_15 at h
  refine lv_iconst (v := 0) F.1 F.2.1 dX4_skipTo_15 (by decide) ?_
  exact w_X4_skipTo_16 F hr hlk hK out  _ _ _ _ _ _  hW hS hl h
set_option maxHeartbeats 4000000 in
set_option maxRecDepth 100000 in
theorem c_X4_skipTo (l : Launch) (G : GT) (A : Nat → Prop) (a0 : Int32) (S : St) (out : Int32 × St) (h : f_X4_skipTo a0 S = some out) : Met l yX4_skipTo wsX4_skipTo rm_X4_skipTo (va_Pc [.ref (G.2.2 5 0), .int a0] (WD shC idsC G A S)) (QI shC idsC G A out) 0 0 A := by
  refine Met.ofW (cc := cX4_skipTo) (maxL := 4) (ret := (some .boolean)) (by decide) rfl ?_
  intro p e s m args below meth c s₁ B hml hv
  obtain ⟨rfl, hW, hK⟩ := hv
  have F : CallFix p m c cX4_skipTo 4 s _ wsX4_skipTo RX4 := ⟨B.exec, B.bytes, hml, findClass_of_methodNamed B.named, atoms_spec (ws := wsX4_skipTo) B.pre⟩
  have hr := B.returns
  have hlk := B.notSynchronized
  have hS : va_S A s.heap s.heap [] := va_S.rf
  have hl := lv_entry ([.ref (G.2.2 5 0), .int a0]) (n := 4) (Nat.le_of_ble_eq_true rfl)
  rw [lg_entry_eq]
  generalize (lg_sl ([.ref (G.2.2 5 0), .int a0]) ++ List.replicate (4 - (lg_sl ([.ref (G.2.2 5 0), .int a0])).length) Slot.unset).toArray = ls at hl ⊢
  have hl : lv_has ls 4 [(0, .ref (G.2.2 5 0)), (1, .int a0)] := hl
  unfold f_X4_skipTo at h
  refine lv_iload_n F.1 F.2.1 dX4_skipTo_0 rfl (lv_at hl 1 rfl) ?_
  refine lv_if_lt (tgt := 15) F.1 F.2.1 dX4_skipTo_1 (by decide) (fun c_1 => ?_) (fun c_1 => ?_)
  · have h := (if_pos c_1).symm.trans h
    exact w_X4_skipTo_15 F hr hlk hK out  _ _ _ _ _  hW hS hl h
  · have h := (if_neg c_1).symm.trans h
    refine lv_iload_n F.1 F.2.1 dX4_skipTo_4 rfl (lv_at hl 1 rfl) ?_
    refine lv_sipush (v := 4096) F.1 F.2.1 dX4_skipTo_5 (by decide) ?_
    refine lv_icmp_ge (tgt := 15) F.1 F.2.1 dX4_skipTo_8 (by decide) (fun c_10 => ?_) (fun c_10 => ?_)
    · have h := (if_pos c_10).symm.trans h
      exact w_X4_skipTo_15 F hr hlk hK out  _ _ _ _ _  hW hS hl h
    · have h := (if_neg c_10).symm.trans h
      refine lv_iconst (v := 1) F.1 F.2.1 dX4_skipTo_11 (by decide) ?_
      refine lv_goto (tgt := 16) F.1 F.2.1 dX4_skipTo_12 (by decide) ?_
      exact w_X4_skipTo_16 F hr hlk hK out  _ _ _ _ _ _  hW hS hl h
/-! CellCover.match(IIII)I -/
abbrev rm_X8_match : Room := { frames := 4, cells := 0, slots := 0, locals := 97 }
theorem in_X8_match_X8 : ∀ w ∈ wsX80, w ∈ wsX8_match := by decide +kernel
theorem in_X8_match_X3 : ∀ w ∈ wsX30, w ∈ wsX8_match := by decide +kernel
theorem in_X8_match_X4 : ∀ w ∈ wsX40, w ∈ wsX8_match := by decide +kernel
theorem lk_X8_match_33 : Cond.fieldLink RX8 33 "CellCover" "library" "LCellCover$Library;" ∈ wsX8_match := by decide +kernel
theorem lk_X8_match_12 : Cond.fieldLink RX8 12 "CellCover" "vertices" "LCellCover$Vertices;" ∈ wsX8_match := by decide +kernel
theorem lk_X8_match_42 : Cond.fieldLink RX8 42 "CellCover" "matcher" "LCellCover$Matcher;" ∈ wsX8_match := by decide +kernel
theorem lk_X8_match_125 : Cond.fieldLink RX8 125 "CellCover$Library" "cells" "[LCellCover$Cell;" ∈ wsX8_match := by decide +kernel
theorem lk_X8_match_191 : Cond.fieldLink RX8 191 "CellCover$Matcher" "pinAt" "[I" ∈ wsX8_match := by decide +kernel
set_option maxHeartbeats 4000000 in
set_option maxRecDepth 100000 in
theorem w_X8_match_34 {p : Program} {l : Launch} {e : Env} {s : State} {m : MethodId} {args : Array Value} {below : List Frame} {meth : Method} {c : Code} {G : GT} {A : Nat → Prop} (F : CallFix p m c cX8_match 5 s args wsX8_match RX8) (hr : meth.sig.returnType = (some .int)) (hlk : meth.locks = false) (hK : va_K G.1 vwCl (tyl G) s) (out : Int32 × St) : ∀ (S : St) (H : Heap) (locs : List Loc) (ls : Array Slot), Wd shC idsC G A S H → va_S A s.heap H locs → lv_has ls 5 [] → j_X8_match_34 S = some out → W p l e rm_X8_match s m args below meth c H locs 0 0 (MQ below (QI shC idsC G A out) args s 0 0 A) (F0 m 34 ls []) := by
  intro S H locs ls hW hS hl h
  unfold j_X8_match_34 at h
  refine lv_iconst (v := -1) F.1 F.2.1 dX8_match_34 (by decide) ?_
  exact rw_ret F hr hlk hK hW hS h dX8_match_35
set_option maxHeartbeats 4000000 in
set_option maxRecDepth 100000 in
theorem w_X8_match_79 {p : Program} {l : Launch} {e : Env} {s : State} {m : MethodId} {args : Array Value} {below : List Frame} {meth : Method} {c : Code} {G : GT} {A : Nat → Prop} (F : CallFix p m c cX8_match 5 s args wsX8_match RX8) (hr : meth.sig.returnType = (some .int)) (hlk : meth.locks = false) (hK : va_K G.1 vwCl (tyl G) s) (out : Int32 × St) : ∀ (S : St) (y0 : Int32) (H : Heap) (locs : List Loc) (ls : Array Slot), Wd shC idsC G A S H → va_S A s.heap H locs → lv_has ls 5 [] → j_X8_match_79 S y0 = some out → W p l e rm_X8_match s m args below meth c H locs 0 0 (MQ below (QI shC idsC G A out) args s 0 0 A) (F0 m 79 ls [.int y0]) := by
  intro S y0 H locs ls hW hS hl h
  unfold j_X8_match_79 at h
  exact rw_ret F hr hlk hK hW hS h dX8_match_79
set_option maxHeartbeats 4000000 in
set_option maxRecDepth 100000 in
theorem c_X8_match (l : Launch) (G : GT) (A : Nat → Prop) (a0 : Int32) (a1 : Int32) (a2 : Int32) (a3 : Int32) (S : St) (out : Int32 × St) (h : f_X8_match a0 a1 a2 a3 S = some out) : Met l yX8_match wsX8_match rm_X8_match (va_Pc [.ref (G.2.2 0 0), .int a0, .int a1, .int a2, .int a3] (WD shC idsC G A S)) (QI shC idsC G A out) 0 0 A := by
  refine Met.ofW (cc := cX8_match) (maxL := 5) (ret := (some .int)) (by decide) rfl ?_
  intro p e s m args below meth c s₁ B hml hv
  obtain ⟨rfl, hW, hK⟩ := hv
  have F : CallFix p m c cX8_match 5 s _ wsX8_match RX8 := ⟨B.exec, B.bytes, hml, findClass_of_methodNamed B.named, atoms_spec (ws := wsX8_match) B.pre⟩
  have hr := B.returns
  have hlk := B.notSynchronized
  have hS : va_S A s.heap s.heap [] := va_S.rf
  have hl := lv_entry ([.ref (G.2.2 0 0), .int a0, .int a1, .int a2, .int a3]) (n := 5) (Nat.le_of_ble_eq_true rfl)
  rw [lg_entry_eq]
  generalize (lg_sl ([.ref (G.2.2 0 0), .int a0, .int a1, .int a2, .int a3]) ++ List.replicate (5 - (lg_sl ([.ref (G.2.2 0 0), .int a0, .int a1, .int a2, .int a3])).length) Slot.unset).toArray = ls at hl ⊢
  have hl : lv_has ls 5 [(0, .ref (G.2.2 0 0)), (1, .int a0), (2, .int a1), (3, .int a2), (4, .int a3)] := hl
  unfold f_X8_match at h
  refine lv_aload_n F.1 F.2.1 dX8_match_0 rfl (lv_at hl 0 rfl) ?_
  refine rw_get (q0 := 0) F hK hW idC_0 rfl rfl in_X8_match_X8 3 (by decide) lk_X8_match_33 rfl dX8_match_1 ?_
  refine lv_iload_n F.1 F.2.1 dX8_match_4 rfl (lv_at hl 1 rfl) ?_
  obtain ⟨r_2, S_3, hq_1, h⟩ := bi_some h
  refine rw_vi F hK hW hS [.int a0] (rest := []) (c_X3_has l G A a0 S (r_2, S_3) hq_1) (cwV 1 F.2.2.2.2 gX8_match_X3_has rfl rfl rfl (by decide +kernel) ⟨Nat.le_of_ble_eq_true rfl, Nat.le_of_ble_eq_true rfl⟩) (rw_recv (q0 := 4) hK hW idC_4 rfl rfl) rfl hl.1 rfl (Nat.le_of_ble_eq_true rfl) dX8_match_5 (fun H locs hW hS => ?_)
  refine lv_if_eq (tgt := 34) F.1 F.2.1 dX8_match_8 (by decide) (fun c_4 => ?_) (fun c_4 => ?_)
  · have h := (if_pos c_4).symm.trans h
    exact w_X8_match_34 F hr hlk hK out  _ _ _ _  hW hS (lv_sub hl [] rfl) h
  · have h := (if_neg c_4).symm.trans h
    refine lv_aload_n F.1 F.2.1 dX8_match_11 rfl (lv_at hl 0 rfl) ?_
    refine rw_get (q0 := 0) F hK hW idC_0 rfl rfl in_X8_match_X8 0 (by decide) lk_X8_match_12 rfl dX8_match_12 ?_
    refine lv_iload_n F.1 F.2.1 dX8_match_15 rfl (lv_at hl 2 rfl) ?_
    obtain ⟨r_6, S_7, hq_5, h⟩ := bi_some h
    refine rw_vi F hK hW hS [.int a1] (rest := []) (c_X7_isAlive l G A a1 S_3 (r_6, S_7) hq_5) (cwV 1 F.2.2.2.2 gX8_match_X7_isAlive rfl rfl rfl (by decide +kernel) ⟨Nat.le_of_ble_eq_true rfl, Nat.le_of_ble_eq_true rfl⟩) (rw_recv (q0 := 1) hK hW idC_1 rfl rfl) rfl hl.1 rfl (Nat.le_of_ble_eq_true rfl) dX8_match_16 (fun H locs hW hS => ?_)
    refine lv_if_eq (tgt := 34) F.1 F.2.1 dX8_match_19 (by decide) (fun c_8 => ?_) (fun c_8 => ?_)
    · have h := (if_pos c_8).symm.trans h
      exact w_X8_match_34 F hr hlk hK out  _ _ _ _  hW hS (lv_sub hl [] rfl) h
    · have h := (if_neg c_8).symm.trans h
      refine lv_iload F.1 F.2.1 dX8_match_22 (lv_at hl 4 rfl) ?_
      refine lv_if_lt (tgt := 34) F.1 F.2.1 dX8_match_24 (by decide) (fun c_9 => ?_) (fun c_9 => ?_)
      · have h := (if_pos c_9).symm.trans h
        exact w_X8_match_34 F hr hlk hK out  _ _ _ _  hW hS (lv_sub hl [] rfl) h
      · have h := (if_neg c_9).symm.trans h
        refine lv_iload F.1 F.2.1 dX8_match_27 (lv_at hl 4 rfl) ?_
        refine lv_bipush (v := 6) F.1 F.2.1 dX8_match_29 (by decide) ?_
        refine lv_icmp_lt (tgt := 36) F.1 F.2.1 dX8_match_31 (by decide) (fun c_10 => ?_) (fun c_10 => ?_)
        · have h := (if_pos c_10).symm.trans h
          refine lv_aload_n F.1 F.2.1 dX8_match_36 rfl (lv_at hl 0 rfl) ?_
          refine rw_get (q0 := 0) F hK hW idC_0 rfl rfl in_X8_match_X8 4 (by decide) lk_X8_match_42 rfl dX8_match_37 ?_
          refine lv_aload_n F.1 F.2.1 dX8_match_40 rfl (lv_at hl 0 rfl) ?_
          refine rw_get (q0 := 0) F hK hW idC_0 rfl rfl in_X8_match_X8 3 (by decide) lk_X8_match_33 rfl dX8_match_41 ?_
          refine rw_get (q0 := 4) F hK hW idC_4 rfl rfl in_X8_match_X3 0 (by decide) lk_X8_match_125 rfl dX8_match_44 ?_
          refine lv_iload_n F.1 F.2.1 dX8_match_47 rfl (lv_at hl 1 rfl) ?_
          obtain ⟨b_11, h⟩ := gd_some h
          refine rw_aald (q0 := 44) F hK hW idC_24 (fun _ => rfl) (ix_in b_11) dX8_match_48 ?_
          refine lv_iload_n F.1 F.2.1 dX8_match_49 rfl (lv_at hl 2 rfl) ?_
          obtain ⟨q_12, hq_12, h⟩ := bv_some h
          refine rw_vv F hK hW hS [.ref (G.2.2 8 a0.toNatClampNeg), .int a1] (rest := []) (c_X4_begin l G A a0.toNatClampNeg a1 (ix_lt b_11) S_7 q_12 hq_12) (cwV 2 F.2.2.2.2 gX8_match_X4_begin rfl rfl rfl (by decide +kernel) ⟨Nat.le_of_ble_eq_true rfl, Nat.le_of_ble_eq_true rfl⟩) (rw_recv (q0 := 5) hK hW idC_5 rfl rfl) rfl hl.1 rfl (Nat.le_of_ble_eq_true rfl) dX8_match_50 (fun H locs hW hS => ?_)
          refine lv_aload_n F.1 F.2.1 dX8_match_53 rfl (lv_at hl 0 rfl) ?_
          refine rw_get (q0 := 0) F hK hW idC_0 rfl rfl in_X8_match_X8 4 (by decide) lk_X8_match_42 rfl dX8_match_54 ?_
          refine lv_iload_n F.1 F.2.1 dX8_match_57 rfl (lv_at hl 3 rfl) ?_
          obtain ⟨r_15, S_16, hq_14, h⟩ := bi_some h
          refine rw_vi F hK hW hS [.int a2] (rest := []) (c_X4_skipTo l G A a2 q_12 (r_15, S_16) hq_14) (cwV 1 F.2.2.2.2 gX8_match_X4_skipTo rfl rfl rfl (by decide +kernel) ⟨Nat.le_of_ble_eq_true rfl, Nat.le_of_ble_eq_true rfl⟩) (rw_recv (q0 := 5) hK hW idC_5 rfl rfl) rfl hl.1 rfl (Nat.le_of_ble_eq_true rfl) dX8_match_58 (fun H locs hW hS => ?_)
          refine lv_if_eq (tgt := 77) F.1 F.2.1 dX8_match_61 (by decide) (fun c_17 => ?_) (fun c_17 => ?_)
          · have h := (if_pos c_17).symm.trans h
            refine lv_bipush (v := -4) F.1 F.2.1 dX8_match_77 (by decide) ?_
            exact w_X8_match_79 F hr hlk hK out  _ _ _ _ _  hW hS (lv_sub hl [] rfl) h
          · have h := (if_neg c_17).symm.trans h
            refine lv_aload_n F.1 F.2.1 dX8_match_64 rfl (lv_at hl 0 rfl) ?_
            refine rw_get (q0 := 0) F hK hW idC_0 rfl rfl in_X8_match_X8 4 (by decide) lk_X8_match_42 rfl dX8_match_65 ?_
            refine rw_get (q0 := 5) F hK hW idC_5 rfl rfl in_X8_match_X4 2 (by decide) lk_X8_match_191 rfl dX8_match_68 ?_
            refine lv_iload F.1 F.2.1 dX8_match_71 (lv_at hl 4 rfl) ?_
            obtain ⟨b_18, h⟩ := gd_some h
            refine rw_iald (q0 := 46) F hK hW idC_26 (fun _ => rfl) (ix_in b_18) dX8_match_73 ?_
            refine lv_topi (fun v_19 ev_19 => ?_)
            have h := lt_n ev_19 h
            refine lv_goto (tgt := 79) F.1 F.2.1 dX8_match_74 (by decide) ?_
            exact w_X8_match_79 F hr hlk hK out  _ _ _ _ _  hW hS (lv_sub hl [] rfl) h
        · have h := (if_neg c_10).symm.trans h
          exact w_X8_match_34 F hr hlk hK out  _ _ _ _  hW hS (lv_sub hl [] rfl) h
/-! CellCover$Cover.hasOne(I)Z -/
abbrev rm_X1_hasOne : Room := { frames := 0, cells := 0, slots := 0, locals := 0 }
theorem in_X1_hasOne_X1 : ∀ w ∈ wsX10, w ∈ wsX1_hasOne := by decide +kernel
theorem in_X1_hasOne_X7 : ∀ w ∈ wsX70, w ∈ wsX1_hasOne := by decide +kernel
theorem lk_X1_hasOne_47 : Cond.fieldLink RX1 47 "CellCover$Cover" "vertices" "LCellCover$Vertices;" ∈ wsX1_hasOne := by decide +kernel
theorem lk_X1_hasOne_59 : Cond.fieldLink RX1 59 "CellCover$Vertices" "form" "[I" ∈ wsX1_hasOne := by decide +kernel
theorem lk_X1_hasOne_18 : Cond.fieldLink RX1 18 "CellCover$Cover" "cellOf" "[I" ∈ wsX1_hasOne := by decide +kernel
set_option maxHeartbeats 4000000 in
set_option maxRecDepth 100000 in
theorem w_X1_hasOne_28 {p : Program} {l : Launch} {e : Env} {s : State} {m : MethodId} {args : Array Value} {below : List Frame} {meth : Method} {c : Code} {G : GT} {A : Nat → Prop} (F : CallFix p m c cX1_hasOne 2 s args wsX1_hasOne RX1) (hr : meth.sig.returnType = (some .boolean)) (hlk : meth.locks = false) (hK : va_K G.1 vwCl (tyl G) s) (t : Nat) (ht : t < 2) (out : Int32 × St) : ∀ (S : St) (y0 : Int32) (H : Heap) (locs : List Loc) (ls : Array Slot), Wd shC idsC G A S H → va_S A s.heap H locs → lv_has ls 2 [] → j_X1_hasOne_28 t S y0 = some out → W p l e rm_X1_hasOne s m args below meth c H locs 0 0 (MQ below (QI shC idsC G A out) args s 0 0 A) (F0 m 28 ls [.int y0]) := by
  intro S y0 H locs ls hW hS hl h
  unfold j_X1_hasOne_28 at h
  obtain ⟨b_4, h⟩ := gd_some h
  exact rw_retz F hr hlk hK hW hS b_4 h dX1_hasOne_28
set_option maxHeartbeats 4000000 in
set_option maxRecDepth 100000 in
theorem w_X1_hasOne_23 {p : Program} {l : Launch} {e : Env} {s : State} {m : MethodId} {args : Array Value} {below : List Frame} {meth : Method} {c : Code} {G : GT} {A : Nat → Prop} (F : CallFix p m c cX1_hasOne 2 s args wsX1_hasOne RX1) (hr : meth.sig.returnType = (some .boolean)) (hlk : meth.locks = false) (hK : va_K G.1 vwCl (tyl G) s) (t : Nat) (ht : t < 2) (out : Int32 × St) : ∀ (S : St) (H : Heap) (locs : List Loc) (ls : Array Slot), Wd shC idsC G A S H → va_S A s.heap H locs → lv_has ls 2 [] → j_X1_hasOne_23 t S = some out → W p l e rm_X1_hasOne s m args below meth c H locs 0 0 (MQ below (QI shC idsC G A out) args s 0 0 A) (F0 m 23 ls []) := by
  intro S H locs ls hW hS hl h
  unfold j_X1_hasOne_23 at h
  refine lv_iconst (v := 1) F.1 F.2.1 dX1_hasOne_23 (by decide) ?_
  refine lv_goto (tgt := 28) F.1 F.2.1 dX1_hasOne_24 (by decide) ?_
  exact w_X1_hasOne_28 F hr hlk hK t ht out  _ _ _ _ _  hW hS hl h
set_option maxHeartbeats 4000000 in
set_option maxRecDepth 100000 in
theorem c_X1_hasOne (l : Launch) (G : GT) (A : Nat → Prop) (t : Nat) (ht : t < 2) (a0 : Int32) (S : St) (out : Int32 × St) (h : f_X1_hasOne t a0 S = some out) : Met l yX1_hasOne wsX1_hasOne rm_X1_hasOne (va_Pc [.ref (G.2.2 6 t), .int a0] (WD shC idsC G A S)) (QI shC idsC G A out) 0 0 A := by
  refine Met.ofW (cc := cX1_hasOne) (maxL := 2) (ret := (some .boolean)) (by decide) rfl ?_
  intro p e s m args below meth c s₁ B hml hv
  obtain ⟨rfl, hW, hK⟩ := hv
  have F : CallFix p m c cX1_hasOne 2 s _ wsX1_hasOne RX1 := ⟨B.exec, B.bytes, hml, findClass_of_methodNamed B.named, atoms_spec (ws := wsX1_hasOne) B.pre⟩
  have hr := B.returns
  have hlk := B.notSynchronized
  have hS : va_S A s.heap s.heap [] := va_S.rf
  have hl := lv_entry ([.ref (G.2.2 6 t), .int a0]) (n := 2) (Nat.le_of_ble_eq_true rfl)
  rw [lg_entry_eq]
  generalize (lg_sl ([.ref (G.2.2 6 t), .int a0]) ++ List.replicate (2 - (lg_sl ([.ref (G.2.2 6 t), .int a0])).length) Slot.unset).toArray = ls at hl ⊢
  have hl : lv_has ls 2 [(0, .ref (G.2.2 6 t)), (1, .int a0)] := hl
  unfold f_X1_hasOne at h
  refine lv_aload_n F.1 F.2.1 dX1_hasOne_0 rfl (lv_at hl 0 rfl) ?_
  refine rw_get (q0 := 6 + t) F hK hW (idC_6 _ ht) rfl rfl in_X1_hasOne_X1 0 (by decide) lk_X1_hasOne_47 rfl dX1_hasOne_1 ?_
  refine rw_get (q0 := 1) F hK hW idC_1 rfl rfl in_X1_hasOne_X7 0 (by decide) lk_X1_hasOne_59 rfl dX1_hasOne_4 ?_
  refine lv_iload_n F.1 F.2.1 dX1_hasOne_7 rfl (lv_at hl 1 rfl) ?_
  obtain ⟨b_1, h⟩ := gd_some h
  refine rw_iald (q0 := 29) F hK hW idC_9 (fun _ => rfl) (ix_in b_1) dX1_hasOne_8 ?_
  refine lv_topi (fun v_2 ev_2 => ?_)
  have h := lt_n ev_2 h
  refine lv_if_eq (tgt := 23) F.1 F.2.1 dX1_hasOne_9 (by decide) (fun c_3 => ?_) (fun c_3 => ?_)
  · have h := (if_pos c_3).symm.trans h
    exact w_X1_hasOne_23 F hr hlk hK t ht out  _ _ _ _  hW hS (lv_sub hl [] rfl) h
  · have h := (if_neg c_3).symm.trans h
    refine lv_aload_n F.1 F.2.1 dX1_hasOne_12 rfl (lv_at hl 0 rfl) ?_
    refine rw_get (q0 := 6 + t) F hK hW (idC_6 _ ht) rfl rfl in_X1_hasOne_X1 5 (by decide) lk_X1_hasOne_18 rfl dX1_hasOne_13 ?_
    refine lv_iload_n F.1 F.2.1 dX1_hasOne_16 rfl (lv_at hl 1 rfl) ?_
    obtain ⟨b_5, h⟩ := gd_some h
    refine rw_iald (q0 := 51 + t) F hK hW (idC_29 _ ht) (fun _ => rfl) (ix_in b_5) dX1_hasOne_17 ?_
    refine lv_topi (fun v_6 ev_6 => ?_)
    have h := lt_n ev_6 h
    refine lv_bipush (v := -4) F.1 F.2.1 dX1_hasOne_18 (by decide) ?_
    refine lv_icmp_eq (tgt := 27) F.1 F.2.1 dX1_hasOne_20 (by decide) (fun c_7 => ?_) (fun c_7 => ?_)
    · have h := (if_pos c_7).symm.trans h
      refine lv_iconst (v := 0) F.1 F.2.1 dX1_hasOne_27 (by decide) ?_
      exact w_X1_hasOne_28 F hr hlk hK t ht out  _ _ _ _ _  hW hS (lv_sub hl [] rfl) h
    · have h := (if_neg c_7).symm.trans h
      exact w_X1_hasOne_23 F hr hlk hK t ht out  _ _ _ _  hW hS (lv_sub hl [] rfl) h
/-! java/lang/Integer.compare(II)I -/
abbrev rm_J6_compare_7cf53 : Room := { frames := 0, cells := 0, slots := 0, locals := 0 }
set_option maxHeartbeats 4000000 in
set_option maxRecDepth 100000 in
theorem w_J6_compare_7cf53_19 {p : Program} {l : Launch} {e : Env} {s : State} {m : MethodId} {args : Array Value} {below : List Frame} {meth : Method} {c : Code} {G : GT} {A : Nat → Prop} (F : CallFix p m c cJ6_compare_7cf53 2 s args wsJ6_compare_7cf53 RJ6) (hr : meth.sig.returnType = (some .int)) (hlk : meth.locks = false) (hK : va_K G.1 vwCl (tyl G) s) (out : Int32 × St) : ∀ (S : St) (y0 : Int32) (H : Heap) (locs : List Loc) (ls : Array Slot), Wd shC idsC G A S H → va_S A s.heap H locs → lv_has ls 2 [] → j_J6_compare_7cf53_19 S y0 = some out → W p l e rm_J6_compare_7cf53 s m args below meth c H locs 0 0 (MQ below (QI shC idsC G A out) args s 0 0 A) (F0 m 19 ls [.int y0]) := by
  intro S y0 H locs ls hW hS hl h
  unfold j_J6_compare_7cf53_19 at h
  exact rw_ret F hr hlk hK hW hS h dJ6_compare_7cf53_19
set_option maxHeartbeats 4000000 in
set_option maxRecDepth 100000 in
theorem c_J6_compare_7cf53 (l : Launch) (G : GT) (A : Nat → Prop) (a0 : Int32) (a1 : Int32) (S : St) (out : Int32 × St) (h : f_J6_compare_7cf53 a0 a1 S = some out) : Met l yJ6_compare_7cf53 wsJ6_compare_7cf53 rm_J6_compare_7cf53 (va_Pc [.int a0, .int a1] (WD shC idsC G A S)) (QI shC idsC G A out) 0 0 A := by
  refine Met.ofW (cc := cJ6_compare_7cf53) (maxL := 2) (ret := (some .int)) (by decide) rfl ?_
  intro p e s m args below meth c s₁ B hml hv
  obtain ⟨rfl, hW, hK⟩ := hv
  have F : CallFix p m c cJ6_compare_7cf53 2 s _ wsJ6_compare_7cf53 RJ6 := ⟨B.exec, B.bytes, hml, findClass_of_methodNamed B.named, atoms_spec (ws := wsJ6_compare_7cf53) B.pre⟩
  have hr := B.returns
  have hlk := B.notSynchronized
  have hS : va_S A s.heap s.heap [] := va_S.rf
  have hl := lv_entry ([.int a0, .int a1]) (n := 2) (Nat.le_of_ble_eq_true rfl)
  rw [lg_entry_eq]
  generalize (lg_sl ([.int a0, .int a1]) ++ List.replicate (2 - (lg_sl ([.int a0, .int a1])).length) Slot.unset).toArray = ls at hl ⊢
  have hl : lv_has ls 2 [(0, .int a0), (1, .int a1)] := hl
  unfold f_J6_compare_7cf53 at h
  refine lv_iload_n F.1 F.2.1 dJ6_compare_7cf53_0 rfl (lv_at hl 0 rfl) ?_
  refine lv_iload_n F.1 F.2.1 dJ6_compare_7cf53_1 rfl (lv_at hl 1 rfl) ?_
  refine lv_icmp_ge (tgt := 9) F.1 F.2.1 dJ6_compare_7cf53_2 (by decide) (fun c_1 => ?_) (fun c_1 => ?_)
  · have h := (if_pos c_1).symm.trans h
    refine lv_iload_n F.1 F.2.1 dJ6_compare_7cf53_9 rfl (lv_at hl 0 rfl) ?_
    refine lv_iload_n F.1 F.2.1 dJ6_compare_7cf53_10 rfl (lv_at hl 1 rfl) ?_
    refine lv_icmp_ne (tgt := 18) F.1 F.2.1 dJ6_compare_7cf53_11 (by decide) (fun c_2 => ?_) (fun c_2 => ?_)
    · have h := (if_neg c_2).symm.trans h
      refine lv_iconst (v := 1) F.1 F.2.1 dJ6_compare_7cf53_18 (by decide) ?_
      exact w_J6_compare_7cf53_19 F hr hlk hK out  _ _ _ _ _  hW hS (lv_sub hl [] rfl) h
    · have h := (if_pos c_2).symm.trans h
      refine lv_iconst (v := 0) F.1 F.2.1 dJ6_compare_7cf53_14 (by decide) ?_
      refine lv_goto (tgt := 19) F.1 F.2.1 dJ6_compare_7cf53_15 (by decide) ?_
      exact w_J6_compare_7cf53_19 F hr hlk hK out  _ _ _ _ _  hW hS (lv_sub hl [] rfl) h
  · have h := (if_neg c_1).symm.trans h
    refine lv_iconst (v := -1) F.1 F.2.1 dJ6_compare_7cf53_5 (by decide) ?_
    refine lv_goto (tgt := 19) F.1 F.2.1 dJ6_compare_7cf53_6 (by decide) ?_
    exact w_J6_compare_7cf53_19 F hr hlk hK out  _ _ _ _ _  hW hS (lv_sub hl [] rfl) h
/-! CellCover$Cover.isBetter(III)Z -/
abbrev rm_X1_isBetter : Room := { frames := 1, cells := 0, slots := 0, locals := 21 }
theorem in_X1_isBetter_X1 : ∀ w ∈ wsX10, w ∈ wsX1_isBetter := by decide +kernel
theorem lk_X1_isBetter_9 : Cond.fieldLink RX1 9 "CellCover$Cover" "areaOf" "[I" ∈ wsX1_isBetter := by decide +kernel
theorem lk_X1_isBetter_15 : Cond.fieldLink RX1 15 "CellCover$Cover" "arrivalOf" "[I" ∈ wsX1_isBetter := by decide +kernel
theorem lk_X1_isBetter_44 : Cond.fieldLink RX1 44 "CellCover$Cover" "manner" "I" ∈ wsX1_isBetter := by decide +kernel
set_option maxHeartbeats 4000000 in
set_option maxRecDepth 100000 in
theorem w_X1_isBetter_76 {p : Program} {l : Launch} {e : Env} {s : State} {m : MethodId} {args : Array Value} {below : List Frame} {meth : Method} {c : Code} {G : GT} {A : Nat → Prop} (F : CallFix p m c cX1_isBetter 8 s args wsX1_isBetter RX1) (hr : meth.sig.returnType = (some .boolean)) (hlk : meth.locks = false) (hK : va_K G.1 vwCl (tyl G) s) (t : Nat) (ht : t < 2) (out : Int32 × St) : ∀ (S : St) (y0 : Int32) (H : Heap) (locs : List Loc) (ls : Array Slot), Wd shC idsC G A S H → va_S A s.heap H locs → lv_has ls 8 [] → j_X1_isBetter_76 t S y0 = some out → W p l e rm_X1_isBetter s m args below meth c H locs 0 0 (MQ below (QI shC idsC G A out) args s 0 0 A) (F0 m 76 ls [.int y0]) := by
  intro S y0 H locs ls hW hS hl h
  unfold j_X1_isBetter_76 at h
  obtain ⟨b_14, h⟩ := gd_some h
  exact rw_retz F hr hlk hK hW hS b_14 h dX1_isBetter_76
set_option maxHeartbeats 4000000 in
set_option maxRecDepth 100000 in
theorem w_X1_isBetter_71 {p : Program} {l : Launch} {e : Env} {s : State} {m : MethodId} {args : Array Value} {below : List Frame} {meth : Method} {c : Code} {G : GT} {A : Nat → Prop} (F : CallFix p m c cX1_isBetter 8 s args wsX1_isBetter RX1) (hr : meth.sig.returnType = (some .boolean)) (hlk : meth.locks = false) (hK : va_K G.1 vwCl (tyl G) s) (t : Nat) (ht : t < 2) (out : Int32 × St) : ∀ (S : St) (H : Heap) (locs : List Loc) (ls : Array Slot), Wd shC idsC G A S H → va_S A s.heap H locs → lv_has ls 8 [] → j_X1_isBetter_71 t S = some out → W p l e rm_X1_isBetter s m args below meth c H locs 0 0 (MQ below (QI shC idsC G A out) args s 0 0 A) (F0 m 71 ls []) := by
  intro S H locs ls hW hS hl h
  unfold j_X1_isBetter_71 at h
  refine lv_iconst (v := 1) F.1 F.2.1 dX1_isBetter_71 (by decide) ?_
  refine lv_goto (tgt := 76) F.1 F.2.1 dX1_isBetter_72 (by decide) ?_
  exact w_X1_isBetter_76 F hr hlk hK t ht out  _ _ _ _ _  hW hS hl h
set_option maxHeartbeats 4000000 in
set_option maxRecDepth 100000 in
theorem w_X1_isBetter_75 {p : Program} {l : Launch} {e : Env} {s : State} {m : MethodId} {args : Array Value} {below : List Frame} {meth : Method} {c : Code} {G : GT} {A : Nat → Prop} (F : CallFix p m c cX1_isBetter 8 s args wsX1_isBetter RX1) (hr : meth.sig.returnType = (some .boolean)) (hlk : meth.locks = false) (hK : va_K G.1 vwCl (tyl G) s) (t : Nat) (ht : t < 2) (out : Int32 × St) : ∀ (S : St) (H : Heap) (locs : List Loc) (ls : Array Slot), Wd shC idsC G A S H → va_S A s.heap H locs → lv_has ls 8 [] → j_X1_isBetter_75 t S = some out → W p l e rm_X1_isBetter s m args below meth c H locs 0 0 (MQ below (QI shC idsC G A out) args s 0 0 A) (F0 m 75 ls []) := by
  intro S H locs ls hW hS hl h
  unfold j_X1_isBetter_75 at h
  refine lv_iconst (v := 0) F.1 F.2.1 dX1_isBetter_75 (by decide) ?_
  exact w_X1_isBetter_76 F hr hlk hK t ht out  _ _ _ _ _  hW hS hl h
set_option maxHeartbeats 4000000 in
set_option maxRecDepth 100000 in
theorem w_X1_isBetter_54 {p : Program} {l : Launch} {e : Env} {s : State} {m : MethodId} {args : Array Value} {below : List Frame} {meth : Method} {c : Code} {G : GT} {A : Nat → Prop} (F : CallFix p m c cX1_isBetter 8 s args wsX1_isBetter RX1) (hr : meth.sig.returnType = (some .boolean)) (hlk : meth.locks = false) (hK : va_K G.1 vwCl (tyl G) s) (t : Nat) (ht : t < 2) (out : Int32 × St) : ∀ (S : St) (x6 : Int32) (y0 : Int32) (H : Heap) (locs : List Loc) (ls : Array Slot), Wd shC idsC G A S H → va_S A s.heap H locs → lv_has ls 8 [(6, .int x6)] → j_X1_isBetter_54 t S x6 y0 = some out → W p l e rm_X1_isBetter s m args below meth c H locs 0 0 (MQ below (QI shC idsC G A out) args s 0 0 A) (F0 m 54 ls [.int y0]) := by
  intro S x6 y0 H locs ls hW hS hl h
  unfold j_X1_isBetter_54 at h
  refine lv_istore (lv' := [(7, .int y0), (6, .int x6)]) F.1 F.2.1 dX1_isBetter_54 hl (by decide) rfl (fun ls hl => ?_)
  refine lv_iload F.1 F.2.1 dX1_isBetter_56 (lv_at hl 1 rfl) ?_
  refine lv_if_lt (tgt := 71) F.1 F.2.1 dX1_isBetter_58 (by decide) (fun c_13 => ?_) (fun c_13 => ?_)
  · have h := (if_pos c_13).symm.trans h
    exact w_X1_isBetter_71 F hr hlk hK t ht out  _ _ _ _  hW hS (lv_sub hl [] rfl) h
  · have h := (if_neg c_13).symm.trans h
    refine lv_iload F.1 F.2.1 dX1_isBetter_61 (lv_at hl 1 rfl) ?_
    refine lv_if_ne (tgt := 75) F.1 F.2.1 dX1_isBetter_63 (by decide) (fun c_15 => ?_) (fun c_15 => ?_)
    · have h := (if_neg c_15).symm.trans h
      exact w_X1_isBetter_75 F hr hlk hK t ht out  _ _ _ _  hW hS (lv_sub hl [] rfl) h
    · have h := (if_pos c_15).symm.trans h
      refine lv_iload F.1 F.2.1 dX1_isBetter_66 (lv_at hl 0 rfl) ?_
      refine lv_if_ge (tgt := 75) F.1 F.2.1 dX1_isBetter_68 (by decide) (fun c_16 => ?_) (fun c_16 => ?_)
      · have h := (if_pos c_16).symm.trans h
        exact w_X1_isBetter_75 F hr hlk hK t ht out  _ _ _ _  hW hS (lv_sub hl [] rfl) h
      · have h := (if_neg c_16).symm.trans h
        exact w_X1_isBetter_71 F hr hlk hK t ht out  _ _ _ _  hW hS (lv_sub hl [] rfl) h
set_option maxHeartbeats 4000000 in
set_option maxRecDepth 100000 in
theorem w_X1_isBetter_38 {p : Program} {l : Launch} {e : Env} {s : State} {m : MethodId} {args : Array Value} {below : List Frame} {meth : Method} {c : Code} {G : GT} {A : Nat → Prop} (F : CallFix p m c cX1_isBetter 8 s args wsX1_isBetter RX1) (hr : meth.sig.returnType = (some .boolean)) (hlk : meth.locks = false) (hK : va_K G.1 vwCl (tyl G) s) (t : Nat) (ht : t < 2) (out : Int32 × St) : ∀ (S : St) (x4 : Int32) (x5 : Int32) (y0 : Int32) (H : Heap) (locs : List Loc) (ls : Array Slot), Wd shC idsC G A S H → va_S A s.heap H locs → lv_has ls 8 [(0, .ref (G.2.2 6 t)), (4, .int x4), (5, .int x5)] → j_X1_isBetter_38 t S x4 x5 y0 = some out → W p l e rm_X1_isBetter s m args below meth c H locs 0 0 (MQ below (QI shC idsC G A out) args s 0 0 A) (F0 m 38 ls [.int y0]) := by
  intro S x4 x5 y0 H locs ls hW hS hl h
  unfold j_X1_isBetter_38 at h
  refine lv_istore (lv' := [(6, .int y0), (0, .ref (G.2.2 6 t)), (4, .int x4), (5, .int x5)]) F.1 F.2.1 dX1_isBetter_38 hl (by decide) rfl (fun ls hl => ?_)
  refine lv_aload_n F.1 F.2.1 dX1_isBetter_40 rfl (lv_at hl 1 rfl) ?_
  refine rw_get (q0 := 6 + t) F hK hW (idC_6 _ ht) rfl rfl in_X1_isBetter_X1 13 (by decide) lk_X1_isBetter_44 rfl dX1_isBetter_41 ?_
  refine lv_if_ne (tgt := 52) F.1 F.2.1 dX1_isBetter_44 (by decide) (fun c_12 => ?_) (fun c_12 => ?_)
  · have h := (if_neg c_12).symm.trans h
    refine lv_iload F.1 F.2.1 dX1_isBetter_52 (lv_at hl 2 rfl) ?_
    exact w_X1_isBetter_54 F hr hlk hK t ht out  _ _ _ _ _ _  hW hS (lv_sub hl [0] rfl) h
  · have h := (if_pos c_12).symm.trans h
    refine lv_iload F.1 F.2.1 dX1_isBetter_47 (lv_at hl 3 rfl) ?_
    refine lv_goto (tgt := 54) F.1 F.2.1 dX1_isBetter_49 (by decide) ?_
    exact w_X1_isBetter_54 F hr hlk hK t ht out  _ _ _ _ _ _  hW hS (lv_sub hl [0] rfl) h
set_option maxHeartbeats 4000000 in
set_option maxRecDepth 100000 in
theorem c_X1_isBetter (l : Launch) (G : GT) (A : Nat → Prop) (t : Nat) (ht : t < 2) (a0 : Int32) (a1 : Int32) (a2 : Int32) (S : St) (out : Int32 × St) (h : f_X1_isBetter t a0 a1 a2 S = some out) : Met l yX1_isBetter wsX1_isBetter rm_X1_isBetter (va_Pc [.ref (G.2.2 6 t), .int a0, .int a1, .int a2] (WD shC idsC G A S)) (QI shC idsC G A out) 0 0 A := by
  refine Met.ofW (cc := cX1_isBetter) (maxL := 8) (ret := (some .boolean)) (by decide) rfl ?_
  intro p e s m args below meth c s₁ B hml hv
  obtain ⟨rfl, hW, hK⟩ := hv
  have F : CallFix p m c cX1_isBetter 8 s _ wsX1_isBetter RX1 := ⟨B.exec, B.bytes, hml, findClass_of_methodNamed B.named, atoms_spec (ws := wsX1_isBetter) B.pre⟩
  have hr := B.returns
  have hlk := B.notSynchronized
  have hS : va_S A s.heap s.heap [] := va_S.rf
  have hl := lv_entry ([.ref (G.2.2 6 t), .int a0, .int a1, .int a2]) (n := 8) (Nat.le_of_ble_eq_true rfl)
  rw [lg_entry_eq]
  generalize (lg_sl ([.ref (G.2.2 6 t), .int a0, .int a1, .int a2]) ++ List.replicate (8 - (lg_sl ([.ref (G.2.2 6 t), .int a0, .int a1, .int a2])).length) Slot.unset).toArray = ls at hl ⊢
  have hl : lv_has ls 8 [(0, .ref (G.2.2 6 t)), (1, .int a0), (2, .int a1), (3, .int a2)] := hl
  unfold f_X1_isBetter at h
  refine lv_iload_n F.1 F.2.1 dX1_isBetter_0 rfl (lv_at hl 2 rfl) ?_
  refine lv_aload_n F.1 F.2.1 dX1_isBetter_1 rfl (lv_at hl 0 rfl) ?_
  refine rw_get (q0 := 6 + t) F hK hW (idC_6 _ ht) rfl rfl in_X1_isBetter_X1 3 (by decide) lk_X1_isBetter_9 rfl dX1_isBetter_2 ?_
  refine lv_iload_n F.1 F.2.1 dX1_isBetter_5 rfl (lv_at hl 1 rfl) ?_
  obtain ⟨b_1, h⟩ := gd_some h
  refine rw_iald (q0 := 47 + t) F hK hW (idC_27 _ ht) (fun _ => rfl) (ix_in b_1) dX1_isBetter_6 ?_
  refine lv_topi (fun v_2 ev_2 => ?_)
  have h := lt_n ev_2 h
  obtain ⟨r_4, S_5, hq_3, h⟩ := bi_some h
  refine rw_si F hK hW hS [.int a1, .int v_2] (rest := []) (c_J6_compare_7cf53 l G A a1 v_2 S (r_4, S_5) hq_3) (va_cwS 2 F.2.2.2.2 gX1_isBetter_J6_compare_7cf53 rfl rfl rfl (by decide +kernel) ⟨Nat.le_of_ble_eq_true rfl, Nat.le_of_ble_eq_true rfl⟩) rfl hl.1 rfl (Nat.le_of_ble_eq_true rfl) dX1_isBetter_7 (fun H locs hW hS => ?_)
  refine lv_istore (lv' := [(4, .int r_4), (0, .ref (G.2.2 6 t)), (1, .int a0), (2, .int a1), (3, .int a2)]) F.1 F.2.1 dX1_isBetter_10 hl (by decide) rfl (fun ls hl => ?_)
  refine lv_iload_n F.1 F.2.1 dX1_isBetter_12 rfl (lv_at hl 4 rfl) ?_
  refine lv_aload_n F.1 F.2.1 dX1_isBetter_13 rfl (lv_at hl 1 rfl) ?_
  refine rw_get (q0 := 6 + t) F hK hW (idC_6 _ ht) rfl rfl in_X1_isBetter_X1 4 (by decide) lk_X1_isBetter_15 rfl dX1_isBetter_14 ?_
  refine lv_iload_n F.1 F.2.1 dX1_isBetter_17 rfl (lv_at hl 2 rfl) ?_
  obtain ⟨b_6, h⟩ := gd_some h
  refine rw_iald (q0 := 49 + t) F hK hW (idC_28 _ ht) (fun _ => rfl) (ix_in b_6) dX1_isBetter_18 ?_
  refine lv_topi (fun v_7 ev_7 => ?_)
  have h := lt_n ev_7 h
  obtain ⟨r_9, S_10, hq_8, h⟩ := bi_some h
  refine rw_si F hK hW hS [.int a2, .int v_7] (rest := []) (c_J6_compare_7cf53 l G A a2 v_7 S_5 (r_9, S_10) hq_8) (va_cwS 2 F.2.2.2.2 gX1_isBetter_J6_compare_7cf53 rfl rfl rfl (by decide +kernel) ⟨Nat.le_of_ble_eq_true rfl, Nat.le_of_ble_eq_true rfl⟩) rfl hl.1 rfl (Nat.le_of_ble_eq_true rfl) dX1_isBetter_19 (fun H locs hW hS => ?_)
  refine lv_istore (lv' := [(5, .int r_9), (4, .int r_4), (0, .ref (G.2.2 6 t)), (1, .int a0), (2, .int a1), (3, .int a2)]) F.1 F.2.1 dX1_isBetter_22 hl (by decide) rfl (fun ls hl => ?_)
  refine lv_aload_n F.1 F.2.1 dX1_isBetter_24 rfl (lv_at hl 2 rfl) ?_
  refine rw_get (q0 := 6 + t) F hK hW (idC_6 _ ht) rfl rfl in_X1_isBetter_X1 13 (by decide) lk_X1_isBetter_44 rfl dX1_isBetter_25 ?_
  refine lv_if_ne (tgt := 36) F.1 F.2.1 dX1_isBetter_28 (by decide) (fun c_11 => ?_) (fun c_11 => ?_)
  · have h := (if_neg c_11).symm.trans h
    refine lv_iload F.1 F.2.1 dX1_isBetter_36 (lv_at hl 0 rfl) ?_
    exact w_X1_isBetter_38 F hr hlk hK t ht out  _ _ _ _ _ _ _  hW hS (lv_sub hl [2, 1, 0] rfl) h
  · have h := (if_pos c_11).symm.trans h
    refine lv_iload F.1 F.2.1 dX1_isBetter_31 (lv_at hl 1 rfl) ?_
    refine lv_goto (tgt := 38) F.1 F.2.1 dX1_isBetter_33 (by decide) ?_
    exact w_X1_isBetter_38 F hr hlk hK t ht out  _ _ _ _ _ _ _  hW hS (lv_sub hl [2, 1, 0] rfl) h
