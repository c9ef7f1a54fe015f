/-! CellCoverModel.fits(III)Z -/
abbrev rm_X9_fits : Room := { frames := 0, cells := 0, slots := 0, locals := 0 }
theorem in_X9_fits_X9 : ∀ w ∈ wsX90, w ∈ wsX9_fits := by decide +kernel
theorem lk_X9_fits_68 : Cond.fieldLink RX9 68 "CellCoverModel" "nands" "[I" ∈ wsX9_fits := by decide +kernel
theorem lk_X9_fits_95 : Cond.fieldLink RX9 95 "CellCoverModel" "pins" "[I" ∈ wsX9_fits := by decide +kernel
theorem lk_X9_fits_92 : Cond.fieldLink RX9 92 "CellCoverModel" "lies" "[I" ∈ wsX9_fits := by decide +kernel
theorem lk_X9_fits_65 : Cond.fieldLink RX9 65 "CellCoverModel" "size" "[I" ∈ wsX9_fits := by decide +kernel
theorem lk_X9_fits_74 : Cond.fieldLink RX9 74 "CellCoverModel" "sign" "[I" ∈ wsX9_fits := by decide +kernel
theorem lk_X9_fits_31 : Cond.fieldLink RX9 31 "CellCoverModel" "vWhat" "[I" ∈ wsX9_fits := by decide +kernel
theorem lk_X9_fits_80 : Cond.fieldLink RX9 80 "CellCoverModel" "left" "[I" ∈ wsX9_fits := by decide +kernel
theorem lk_X9_fits_34 : Cond.fieldLink RX9 34 "CellCoverModel" "vOne" "[I" ∈ wsX9_fits := by decide +kernel
theorem lk_X9_fits_83 : Cond.fieldLink RX9 83 "CellCoverModel" "right" "[I" ∈ wsX9_fits := by decide +kernel
theorem lk_X9_fits_37 : Cond.fieldLink RX9 37 "CellCoverModel" "vTwo" "[I" ∈ wsX9_fits := by decide +kernel
theorem lk_X9_fits_50 : Cond.fieldLink RX9 50 "CellCoverModel" "root" "[Z" ∈ wsX9_fits := by decide +kernel
theorem lk_X9_fits_77 : Cond.fieldLink RX9 77 "CellCoverModel" "letter" "[I" ∈ wsX9_fits := by decide +kernel
set_option maxHeartbeats 4000000 in
set_option maxRecDepth 100000 in
theorem w_X9_fits_17 {p : Program} {l : Launch} {e : Env} {s : State} {m : MethodId} {args : Array Value} {below : List Frame} {meth : Method} {c : Code} {G : GT} {A : Nat → Prop} (F : CallFix p m c cX9_fits 10 s args wsX9_fits RX9) (hr : meth.sig.returnType = (some .boolean)) (hlk : meth.locks = false) (hK : va_K G.1 vwCl (tyl G) s) (out : Int32 × St) (k39 : St → Int32 → Int32 → Int32 → Int32 → Int32 → Option (Int32 × St)) (K39 : ∀ (S : St) (x1 : Int32) (x2 : Int32) (x3 : Int32) (x4 : Int32) (x5 : Int32) (H : Heap) (locs : List Loc) (ls : Array Slot), Wd shM idsM G A S H → va_S A s.heap H locs → lv_has ls 10 [(0, .ref (G.2.2 0 0)), (1, .int x1), (2, .int x2), (3, .int x3), (4, .int x4), (5, .int x5)] → k39 S x1 x2 x3 x4 x5 = some out → W p l e rm_X9_fits s m args below meth c H locs 0 0 (MQ below (QI shM idsM G A out) args s 0 0 A) (F0 m 39 ls [])) : ∀ n : Nat, ∀ (S : St) (x1 : Int32) (x2 : Int32) (x3 : Int32) (x4 : Int32) (x5 : Int32) (x6 : Int32) (H : Heap) (locs : List Loc) (ls : Array Slot), Wd shM idsM G A S H → va_S A s.heap H locs → lv_has ls 10 [(0, .ref (G.2.2 0 0)), (1, .int x1), (2, .int x2), (3, .int x3), (4, .int x4), (5, .int x5), (6, .int x6)] → l_X9_fits_17 k39 n S x1 x2 x3 x4 x5 x6 = some out → W p l e rm_X9_fits s m args below meth c H locs 0 0 (MQ below (QI shM idsM G A out) args s 0 0 A) (F0 m 17 ls []) := by
  intro n
  induction n with
  | zero =>
    intro S x1 x2 x3 x4 x5 x6 H locs ls hW hS hl h
    cases h
  | succ n Kb =>
    generalize hkb : l_X9_fits_17 k39 n = kb at Kb
    intro S x1 x2 x3 x4 x5 x6 H locs ls hW hS hl h
    rw [show l_X9_fits_17 k39 (n + 1) = b_X9_fits_17 (l_X9_fits_17 k39 n) k39 from rfl, hkb] at h
    unfold b_X9_fits_17 at h
    refine lv_iload F.1 F.2.1 dX9_fits_17 (lv_at hl 6 rfl) ?_
    refine lv_bipush (v := 6) F.1 F.2.1 dX9_fits_19 (by decide) ?_
    refine lv_icmp_ge (tgt := 39) F.1 F.2.1 dX9_fits_21 (by decide) (fun c_4 => ?_) (fun c_4 => ?_)
    · have h := (if_pos c_4).symm.trans h
      exact K39 _ _ _ _ _ _ _ _ _  hW hS (lv_sub hl [0, 1, 2, 3, 4, 5] rfl) h
    · have h := (if_neg c_4).symm.trans h
      refine lv_aload_n F.1 F.2.1 dX9_fits_24 rfl (lv_at hl 0 rfl) ?_
      refine rw_get (q0 := 0) F hK hW idM_0 rfl rfl in_X9_fits_X9 39 (by decide) lk_X9_fits_95 rfl dX9_fits_25 ?_
      refine lv_iload F.1 F.2.1 dX9_fits_28 (lv_at hl 6 rfl) ?_
      refine lv_bipush (v := -4) F.1 F.2.1 dX9_fits_30 (by decide) ?_
      obtain ⟨b_5, h⟩ := gd_some h
      refine rw_iast ndM (q0 := 29) F hK hW hS idM_29 (fun _ => rfl) (ix_in b_5) dX9_fits_32 (fun H locs S_6 eS_6 hW hS => ?_)
      have h := lt_n eS_6 h
      obtain ⟨v_7, ev_7⟩ : ∃ y : Int32, y = x6 + 1 := ⟨_, rfl⟩
      have h := lt_n ev_7 h
      refine lv_iinc (v := v_7) (lv' := [(6, .int v_7), (0, .ref (G.2.2 0 0)), (1, .int x1), (2, .int x2), (3, .int x3), (4, .int x4), (5, .int x5)]) F.1 F.2.1 dX9_fits_33 hl (k := 6) rfl (by rw [ev_7]; rfl) (by decide) rfl (fun ls hl => ?_)
      refine lv_goto (tgt := 17) F.1 F.2.1 dX9_fits_36 (by decide) ?_
      exact Kb _ _ _ _ _ _ _ _ _ _  hW hS (lv_sub hl [1, 2, 3, 4, 5, 6, 0] rfl) h
set_option maxHeartbeats 4000000 in
set_option maxRecDepth 100000 in
theorem w_X9_fits_291 {p : Program} {l : Launch} {e : Env} {s : State} {m : MethodId} {args : Array Value} {below : List Frame} {meth : Method} {c : Code} {G : GT} {A : Nat → Prop} (F : CallFix p m c cX9_fits 10 s args wsX9_fits RX9) (hr : meth.sig.returnType = (some .boolean)) (hlk : meth.locks = false) (hK : va_K G.1 vwCl (tyl G) s) (out : Int32 × St) (kb : St → Int32 → Int32 → Int32 → Int32 → Int32 → Option (Int32 × St)) (Kb : ∀ (S : St) (x1 : Int32) (x3 : Int32) (x4 : Int32) (x5 : Int32) (x6 : Int32) (H : Heap) (locs : List Loc) (ls : Array Slot), Wd shM idsM G A S H → va_S A s.heap H locs → lv_has ls 10 [(0, .ref (G.2.2 0 0)), (1, .int x1), (3, .int x3), (4, .int x4), (5, .int x5), (6, .int x6)] → kb S x1 x3 x4 x5 x6 = some out → W p l e rm_X9_fits s m args below meth c H locs 0 0 (MQ below (QI shM idsM G A out) args s 0 0 A) (F0 m 49 ls [])) : ∀ (S : St) (x1 : Int32) (x3 : Int32) (x4 : Int32) (x5 : Int32) (x6 : Int32) (H : Heap) (locs : List Loc) (ls : Array Slot), Wd shM idsM G A S H → va_S A s.heap H locs → lv_has ls 10 [(0, .ref (G.2.2 0 0)), (1, .int x1), (3, .int x3), (4, .int x4), (5, .int x5), (6, .int x6)] → j_X9_fits_291 kb S x1 x3 x4 x5 x6 = some out → W p l e rm_X9_fits s m args below meth c H locs 0 0 (MQ below (QI shM idsM G A out) args s 0 0 A) (F0 m 291 ls []) := by
  intro S x1 x3 x4 x5 x6 H locs ls hW hS hl h
  unfold j_X9_fits_291 at h
  obtain ⟨v_39, ev_39⟩ : ∃ y : Int32, y = x6 + 1 := ⟨_, rfl⟩
  have h := lt_n ev_39 h
  refine lv_iinc (v := v_39) (lv' := [(6, .int v_39), (0, .ref (G.2.2 0 0)), (1, .int x1), (3, .int x3), (4, .int x4), (5, .int x5)]) F.1 F.2.1 dX9_fits_291 hl (k := 5) rfl (by rw [ev_39]; rfl) (by decide) rfl (fun ls hl => ?_)
  refine lv_goto (tgt := 49) F.1 F.2.1 dX9_fits_294 (by decide) ?_
  exact Kb _ _ _ _ _ _ _ _ _  hW hS (lv_sub hl [1, 2, 3, 4, 5, 0] rfl) h
set_option maxHeartbeats 4000000 in
set_option maxRecDepth 100000 in
theorem w_X9_fits_290 {p : Program} {l : Launch} {e : Env} {s : State} {m : MethodId} {args : Array Value} {below : List Frame} {meth : Method} {c : Code} {G : GT} {A : Nat → Prop} (F : CallFix p m c cX9_fits 10 s args wsX9_fits RX9) (hr : meth.sig.returnType = (some .boolean)) (hlk : meth.locks = false) (hK : va_K G.1 vwCl (tyl G) s) (out : Int32 × St) (kb : St → Int32 → Int32 → Int32 → Int32 → Int32 → Option (Int32 × St)) (Kb : ∀ (S : St) (x1 : Int32) (x3 : Int32) (x4 : Int32) (x5 : Int32) (x6 : Int32) (H : Heap) (locs : List Loc) (ls : Array Slot), Wd shM idsM G A S H → va_S A s.heap H locs → lv_has ls 10 [(0, .ref (G.2.2 0 0)), (1, .int x1), (3, .int x3), (4, .int x4), (5, .int x5), (6, .int x6)] → kb S x1 x3 x4 x5 x6 = some out → W p l e rm_X9_fits s m args below meth c H locs 0 0 (MQ below (QI shM idsM G A out) args s 0 0 A) (F0 m 49 ls [])) : ∀ (S : St) (x1 : Int32) (x3 : Int32) (x4 : Int32) (x5 : Int32) (x6 : Int32) (y1 : Int32) (y2 : Int32) (H : Heap) (locs : List Loc) (ls : Array Slot), Wd shM idsM G A S H → va_S A s.heap H locs → lv_has ls 10 [(0, .ref (G.2.2 0 0)), (1, .int x1), (3, .int x3), (4, .int x4), (5, .int x5), (6, .int x6)] → j_X9_fits_290 kb S x1 x3 x4 x5 x6 y1 y2 = some out → W p l e rm_X9_fits s m args below meth c H locs 0 0 (MQ below (QI shM idsM G A out) args s 0 0 A) (F0 m 290 ls [.int y2, .int y1, .ref (G.2.2 28 0)]) := by
  intro S x1 x3 x4 x5 x6 y1 y2 H locs ls hW hS hl h
  unfold j_X9_fits_290 at h
  obtain ⟨b_37, h⟩ := gd_some h
  refine rw_iast ndM (q0 := 28) F hK hW hS idM_28 (fun _ => rfl) (ix_in b_37) dX9_fits_290 (fun H locs S_38 eS_38 hW hS => ?_)
  have h := lt_n eS_38 h
  exact w_X9_fits_291 F hr hlk hK out kb Kb _ _ _ _ _ _ _ _ _  hW hS hl h
set_option maxHeartbeats 4000000 in
set_option maxRecDepth 100000 in
theorem w_X9_fits_253 {p : Program} {l : Launch} {e : Env} {s : State} {m : MethodId} {args : Array Value} {below : List Frame} {meth : Method} {c : Code} {G : GT} {A : Nat → Prop} (F : CallFix p m c cX9_fits 10 s args wsX9_fits RX9) (hr : meth.sig.returnType = (some .boolean)) (hlk : meth.locks = false) (hK : va_K G.1 vwCl (tyl G) s) (out : Int32 × St) (kb : St → Int32 → Int32 → Int32 → Int32 → Int32 → Option (Int32 × St)) (Kb : ∀ (S : St) (x1 : Int32) (x3 : Int32) (x4 : Int32) (x5 : Int32) (x6 : Int32) (H : Heap) (locs : List Loc) (ls : Array Slot), Wd shM idsM G A S H → va_S A s.heap H locs → lv_has ls 10 [(0, .ref (G.2.2 0 0)), (1, .int x1), (3, .int x3), (4, .int x4), (5, .int x5), (6, .int x6)] → kb S x1 x3 x4 x5 x6 = some out → W p l e rm_X9_fits s m args below meth c H locs 0 0 (MQ below (QI shM idsM G A out) args s 0 0 A) (F0 m 49 ls [])) : ∀ (S : St) (x1 : Int32) (x3 : Int32) (x4 : Int32) (x5 : Int32) (x6 : Int32) (x7 : Int32) (x9 : Int32) (y1 : Int32) (y2 : Int32) (H : Heap) (locs : List Loc) (ls : Array Slot), Wd shM idsM G A S H → va_S A s.heap H locs → lv_has ls 10 [(0, .ref (G.2.2 0 0)), (1, .int x1), (3, .int x3), (4, .int x4), (5, .int x5), (6, .int x6), (7, .int x7), (9, .int x9)] → j_X9_fits_253 kb S x1 x3 x4 x5 x6 x7 x9 y1 y2 = some out → W p l e rm_X9_fits s m args below meth c H locs 0 0 (MQ below (QI shM idsM G A out) args s 0 0 A) (F0 m 253 ls [.int y2, .int y1, .ref (G.2.2 28 0)]) := by
  intro S x1 x3 x4 x5 x6 x7 x9 y1 y2 H locs ls hW hS hl h
  unfold j_X9_fits_253 at h
  obtain ⟨b_30, h⟩ := gd_some h
  refine rw_iast ndM (q0 := 28) F hK hW hS idM_28 (fun _ => rfl) (ix_in b_30) dX9_fits_253 (fun H locs S_31 eS_31 hW hS => ?_)
  have h := lt_n eS_31 h
  refine lv_aload_n F.1 F.2.1 dX9_fits_254 rfl (lv_at hl 0 rfl) ?_
  refine rw_get (q0 := 0) F hK hW idM_0 rfl rfl in_X9_fits_X9 38 (by decide) lk_X9_fits_92 rfl dX9_fits_255 ?_
  refine lv_aload_n F.1 F.2.1 dX9_fits_258 rfl (lv_at hl 0 rfl) ?_
  refine rw_get (q0 := 0) F hK hW idM_0 rfl rfl in_X9_fits_X9 32 (by decide) lk_X9_fits_83 rfl dX9_fits_259 ?_
  refine lv_iload F.1 F.2.1 dX9_fits_262 (lv_at hl 3 rfl) ?_
  refine lv_iload F.1 F.2.1 dX9_fits_264 (lv_at hl 5 rfl) ?_
  refine lv_iadd F.1 F.2.1 dX9_fits_266 ?_
  obtain ⟨b_32, h⟩ := gd_some h
  refine rw_iald (q0 := 25) F hK hW idM_25 (fun _ => rfl) (ix_in b_32) dX9_fits_267 ?_
  refine lv_topi (fun v_33 ev_33 => ?_)
  have h := lt_n ev_33 h
  refine lv_iload F.1 F.2.1 dX9_fits_268 (lv_at hl 7 rfl) ?_
  refine lv_if_eq (tgt := 283) F.1 F.2.1 dX9_fits_270 (by decide) (fun c_34 => ?_) (fun c_34 => ?_)
  · have h := (if_pos c_34).symm.trans h
    refine lv_aload_n F.1 F.2.1 dX9_fits_283 rfl (lv_at hl 0 rfl) ?_
    refine rw_get (q0 := 0) F hK hW idM_0 rfl rfl in_X9_fits_X9 14 (by decide) lk_X9_fits_37 rfl dX9_fits_284 ?_
    refine lv_iload F.1 F.2.1 dX9_fits_287 (lv_at hl 6 rfl) ?_
    obtain ⟨b_35, h⟩ := gd_some h
    refine rw_iald (q0 := 10) F hK hW idM_10 (fun _ => rfl) (ix_in b_35) dX9_fits_289 ?_
    refine lv_topi (fun v_36 ev_36 => ?_)
    have h := lt_n ev_36 h
    exact w_X9_fits_290 F hr hlk hK out kb Kb _ _ _ _ _ _ _ _ _ _ _  hW hS (lv_sub hl [0, 1, 2, 3, 4, 5] rfl) h
  · have h := (if_neg c_34).symm.trans h
    refine lv_aload_n F.1 F.2.1 dX9_fits_273 rfl (lv_at hl 0 rfl) ?_
    refine rw_get (q0 := 0) F hK hW idM_0 rfl rfl in_X9_fits_X9 13 (by decide) lk_X9_fits_34 rfl dX9_fits_274 ?_
    refine lv_iload F.1 F.2.1 dX9_fits_277 (lv_at hl 6 rfl) ?_
    obtain ⟨b_40, h⟩ := gd_some h
    refine rw_iald (q0 := 9) F hK hW idM_9 (fun _ => rfl) (ix_in b_40) dX9_fits_279 ?_
    refine lv_topi (fun v_41 ev_41 => ?_)
    have h := lt_n ev_41 h
    refine lv_goto (tgt := 290) F.1 F.2.1 dX9_fits_280 (by decide) ?_
    exact w_X9_fits_290 F hr hlk hK out kb Kb _ _ _ _ _ _ _ _ _ _ _  hW hS (lv_sub hl [0, 1, 2, 3, 4, 5] rfl) h
set_option maxHeartbeats 4000000 in
set_option maxRecDepth 100000 in
theorem w_X9_fits_215 {p : Program} {l : Launch} {e : Env} {s : State} {m : MethodId} {args : Array Value} {below : List Frame} {meth : Method} {c : Code} {G : GT} {A : Nat → Prop} (F : CallFix p m c cX9_fits 10 s args wsX9_fits RX9) (hr : meth.sig.returnType = (some .boolean)) (hlk : meth.locks = false) (hK : va_K G.1 vwCl (tyl G) s) (out : Int32 × St) (kb : St → Int32 → Int32 → Int32 → Int32 → Int32 → Option (Int32 × St)) (Kb : ∀ (S : St) (x1 : Int32) (x3 : Int32) (x4 : Int32) (x5 : Int32) (x6 : Int32) (H : Heap) (locs : List Loc) (ls : Array Slot), Wd shM idsM G A S H → va_S A s.heap H locs → lv_has ls 10 [(0, .ref (G.2.2 0 0)), (1, .int x1), (3, .int x3), (4, .int x4), (5, .int x5), (6, .int x6)] → kb S x1 x3 x4 x5 x6 = some out → W p l e rm_X9_fits s m args below meth c H locs 0 0 (MQ below (QI shM idsM G A out) args s 0 0 A) (F0 m 49 ls [])) : ∀ (S : St) (x1 : Int32) (x3 : Int32) (x4 : Int32) (x5 : Int32) (x6 : Int32) (x7 : Int32) (y0 : Int32) (H : Heap) (locs : List Loc) (ls : Array Slot), Wd shM idsM G A S H → va_S A s.heap H locs → lv_has ls 10 [(0, .ref (G.2.2 0 0)), (1, .int x1), (3, .int x3), (4, .int x4), (5, .int x5), (6, .int x6), (7, .int x7)] → j_X9_fits_215 kb S x1 x3 x4 x5 x6 x7 y0 = some out → W p l e rm_X9_fits s m args below meth c H locs 0 0 (MQ below (QI shM idsM G A out) args s 0 0 A) (F0 m 215 ls [.int y0]) := by
  intro S x1 x3 x4 x5 x6 x7 y0 H locs ls hW hS hl h
  unfold j_X9_fits_215 at h
  refine lv_istore (lv' := [(9, .int y0), (0, .ref (G.2.2 0 0)), (1, .int x1), (3, .int x3), (4, .int x4), (5, .int x5), (6, .int x6), (7, .int x7)]) F.1 F.2.1 dX9_fits_215 hl (by decide) rfl (fun ls hl => ?_)
  refine lv_aload_n F.1 F.2.1 dX9_fits_217 rfl (lv_at hl 1 rfl) ?_
  refine rw_get (q0 := 0) F hK hW idM_0 rfl rfl in_X9_fits_X9 38 (by decide) lk_X9_fits_92 rfl dX9_fits_218 ?_
  refine lv_aload_n F.1 F.2.1 dX9_fits_221 rfl (lv_at hl 1 rfl) ?_
  refine rw_get (q0 := 0) F hK hW idM_0 rfl rfl in_X9_fits_X9 31 (by decide) lk_X9_fits_80 rfl dX9_fits_222 ?_
  refine lv_iload F.1 F.2.1 dX9_fits_225 (lv_at hl 4 rfl) ?_
  refine lv_iload F.1 F.2.1 dX9_fits_227 (lv_at hl 6 rfl) ?_
  refine lv_iadd F.1 F.2.1 dX9_fits_229 ?_
  obtain ⟨b_25, h⟩ := gd_some h
  refine rw_iald (q0 := 24) F hK hW idM_24 (fun _ => rfl) (ix_in b_25) dX9_fits_230 ?_
  refine lv_topi (fun v_26 ev_26 => ?_)
  have h := lt_n ev_26 h
  refine lv_iload F.1 F.2.1 dX9_fits_231 (lv_at hl 0 rfl) ?_
  refine lv_if_eq (tgt := 246) F.1 F.2.1 dX9_fits_233 (by decide) (fun c_27 => ?_) (fun c_27 => ?_)
  · have h := (if_pos c_27).symm.trans h
    refine lv_aload_n F.1 F.2.1 dX9_fits_246 rfl (lv_at hl 1 rfl) ?_
    refine rw_get (q0 := 0) F hK hW idM_0 rfl rfl in_X9_fits_X9 13 (by decide) lk_X9_fits_34 rfl dX9_fits_247 ?_
    refine lv_iload F.1 F.2.1 dX9_fits_250 (lv_at hl 7 rfl) ?_
    obtain ⟨b_28, h⟩ := gd_some h
    refine rw_iald (q0 := 9) F hK hW idM_9 (fun _ => rfl) (ix_in b_28) dX9_fits_252 ?_
    refine lv_topi (fun v_29 ev_29 => ?_)
    have h := lt_n ev_29 h
    exact w_X9_fits_253 F hr hlk hK out kb Kb _ _ _ _ _ _ _ _ _ _ _ _ _  hW hS (lv_sub hl [1, 2, 3, 4, 5, 6, 7, 0] rfl) h
  · have h := (if_neg c_27).symm.trans h
    refine lv_aload_n F.1 F.2.1 dX9_fits_236 rfl (lv_at hl 1 rfl) ?_
    refine rw_get (q0 := 0) F hK hW idM_0 rfl rfl in_X9_fits_X9 14 (by decide) lk_X9_fits_37 rfl dX9_fits_237 ?_
    refine lv_iload F.1 F.2.1 dX9_fits_240 (lv_at hl 7 rfl) ?_
    obtain ⟨b_42, h⟩ := gd_some h
    refine rw_iald (q0 := 10) F hK hW idM_10 (fun _ => rfl) (ix_in b_42) dX9_fits_242 ?_
    refine lv_topi (fun v_43 ev_43 => ?_)
    have h := lt_n ev_43 h
    refine lv_goto (tgt := 253) F.1 F.2.1 dX9_fits_243 (by decide) ?_
    exact w_X9_fits_253 F hr hlk hK out kb Kb _ _ _ _ _ _ _ _ _ _ _ _ _  hW hS (lv_sub hl [1, 2, 3, 4, 5, 6, 7, 0] rfl) h
set_option maxHeartbeats 4000000 in
set_option maxRecDepth 100000 in
theorem w_X9_fits_166 {p : Program} {l : Launch} {e : Env} {s : State} {m : MethodId} {args : Array Value} {below : List Frame} {meth : Method} {c : Code} {G : GT} {A : Nat → Prop} (F : CallFix p m c cX9_fits 10 s args wsX9_fits RX9) (hr : meth.sig.returnType = (some .boolean)) (hlk : meth.locks = false) (hK : va_K G.1 vwCl (tyl G) s) (out : Int32 × St) (kb : St → Int32 → Int32 → Int32 → Int32 → Int32 → Option (Int32 × St)) (Kb : ∀ (S : St) (x1 : Int32) (x3 : Int32) (x4 : Int32) (x5 : Int32) (x6 : Int32) (H : Heap) (locs : List Loc) (ls : Array Slot), Wd shM idsM G A S H → va_S A s.heap H locs → lv_has ls 10 [(0, .ref (G.2.2 0 0)), (1, .int x1), (3, .int x3), (4, .int x4), (5, .int x5), (6, .int x6)] → kb S x1 x3 x4 x5 x6 = some out → W p l e rm_X9_fits s m args below meth c H locs 0 0 (MQ below (QI shM idsM G A out) args s 0 0 A) (F0 m 49 ls [])) : ∀ (S : St) (x1 : Int32) (x3 : Int32) (x4 : Int32) (x5 : Int32) (x6 : Int32) (x7 : Int32) (x8 : Int32) (H : Heap) (locs : List Loc) (ls : Array Slot), Wd shM idsM G A S H → va_S A s.heap H locs → lv_has ls 10 [(0, .ref (G.2.2 0 0)), (1, .int x1), (3, .int x3), (4, .int x4), (5, .int x5), (6, .int x6), (7, .int x7), (8, .int x8)] → j_X9_fits_166 kb S x1 x3 x4 x5 x6 x7 x8 = some out → W p l e rm_X9_fits s m args below meth c H locs 0 0 (MQ below (QI shM idsM G A out) args s 0 0 A) (F0 m 166 ls []) := by
  intro S x1 x3 x4 x5 x6 x7 x8 H locs ls hW hS hl h
  unfold j_X9_fits_166 at h
  refine lv_iload F.1 F.2.1 dX9_fits_166 (lv_at hl 7 rfl) ?_
  refine lv_iconst (v := 1) F.1 F.2.1 dX9_fits_168 (by decide) ?_
  refine lv_icmp_ne (tgt := 197) F.1 F.2.1 dX9_fits_169 (by decide) (fun c_22 => ?_) (fun c_22 => ?_)
  · have h := (if_neg c_22).symm.trans h
    obtain ⟨v_23, ev_23⟩ : ∃ y : Int32, y = x5 + (-1) := ⟨_, rfl⟩
    have h := lt_n ev_23 h
    refine lv_iinc (v := v_23) (lv' := [(5, .int v_23), (0, .ref (G.2.2 0 0)), (1, .int x1), (3, .int x3), (4, .int x4), (6, .int x6), (7, .int x7), (8, .int x8)]) F.1 F.2.1 dX9_fits_197 hl (k := 4) rfl (by rw [ev_23]; rfl) (by decide) rfl (fun ls hl => ?_)
    refine lv_iload_n F.1 F.2.1 dX9_fits_200 rfl (lv_at hl 3 rfl) ?_
    refine lv_iload F.1 F.2.1 dX9_fits_201 (lv_at hl 0 rfl) ?_
    refine lv_ishr F.1 F.2.1 dX9_fits_203 ?_
    refine lv_iconst (v := 1) F.1 F.2.1 dX9_fits_204 (by decide) ?_
    refine lv_iand F.1 F.2.1 dX9_fits_205 ?_
    refine lv_iconst (v := 1) F.1 F.2.1 dX9_fits_206 (by decide) ?_
    refine lv_icmp_ne (tgt := 214) F.1 F.2.1 dX9_fits_207 (by decide) (fun c_24 => ?_) (fun c_24 => ?_)
    · have h := (if_neg c_24).symm.trans h
      refine lv_iconst (v := 0) F.1 F.2.1 dX9_fits_214 (by decide) ?_
      exact w_X9_fits_215 F hr hlk hK out kb Kb _ _ _ _ _ _ _ _ _ _ _  hW hS (lv_sub hl [1, 2, 3, 4, 0, 5, 6] rfl) h
    · have h := (if_pos c_24).symm.trans h
      refine lv_iconst (v := 1) F.1 F.2.1 dX9_fits_210 (by decide) ?_
      refine lv_goto (tgt := 215) F.1 F.2.1 dX9_fits_211 (by decide) ?_
      exact w_X9_fits_215 F hr hlk hK out kb Kb _ _ _ _ _ _ _ _ _ _ _  hW hS (lv_sub hl [1, 2, 3, 4, 0, 5, 6] rfl) h
  · have h := (if_pos c_22).symm.trans h
    refine lv_aload_n F.1 F.2.1 dX9_fits_172 rfl (lv_at hl 0 rfl) ?_
    refine rw_get (q0 := 0) F hK hW idM_0 rfl rfl in_X9_fits_X9 38 (by decide) lk_X9_fits_92 rfl dX9_fits_173 ?_
    refine lv_aload_n F.1 F.2.1 dX9_fits_176 rfl (lv_at hl 0 rfl) ?_
    refine rw_get (q0 := 0) F hK hW idM_0 rfl rfl in_X9_fits_X9 31 (by decide) lk_X9_fits_80 rfl dX9_fits_177 ?_
    refine lv_iload F.1 F.2.1 dX9_fits_180 (lv_at hl 3 rfl) ?_
    refine lv_iload F.1 F.2.1 dX9_fits_182 (lv_at hl 5 rfl) ?_
    refine lv_iadd F.1 F.2.1 dX9_fits_184 ?_
    obtain ⟨b_44, h⟩ := gd_some h
    refine rw_iald (q0 := 24) F hK hW idM_24 (fun _ => rfl) (ix_in b_44) dX9_fits_185 ?_
    refine lv_topi (fun v_45 ev_45 => ?_)
    have h := lt_n ev_45 h
    refine lv_aload_n F.1 F.2.1 dX9_fits_186 rfl (lv_at hl 0 rfl) ?_
    refine rw_get (q0 := 0) F hK hW idM_0 rfl rfl in_X9_fits_X9 13 (by decide) lk_X9_fits_34 rfl dX9_fits_187 ?_
    refine lv_iload F.1 F.2.1 dX9_fits_190 (lv_at hl 6 rfl) ?_
    obtain ⟨b_46, h⟩ := gd_some h
    refine rw_iald (q0 := 9) F hK hW idM_9 (fun _ => rfl) (ix_in b_46) dX9_fits_192 ?_
    refine lv_topi (fun v_47 ev_47 => ?_)
    have h := lt_n ev_47 h
    obtain ⟨b_48, h⟩ := gd_some h
    refine rw_iast ndM (q0 := 28) F hK hW hS idM_28 (fun _ => rfl) (ix_in b_48) dX9_fits_193 (fun H locs S_49 eS_49 hW hS => ?_)
    have h := lt_n eS_49 h
    refine lv_goto (tgt := 291) F.1 F.2.1 dX9_fits_194 (by decide) ?_
    exact w_X9_fits_291 F hr hlk hK out kb Kb _ _ _ _ _ _ _ _ _  hW hS (lv_sub hl [0, 1, 2, 3, 4, 5] rfl) h
set_option maxHeartbeats 4000000 in
set_option maxRecDepth 100000 in
theorem w_X9_fits_125 {p : Program} {l : Launch} {e : Env} {s : State} {m : MethodId} {args : Array Value} {below : List Frame} {meth : Method} {c : Code} {G : GT} {A : Nat → Prop} (F : CallFix p m c cX9_fits 10 s args wsX9_fits RX9) (hr : meth.sig.returnType = (some .boolean)) (hlk : meth.locks = false) (hK : va_K G.1 vwCl (tyl G) s) (out : Int32 × St) (kb : St → Int32 → Int32 → Int32 → Int32 → Int32 → Option (Int32 × St)) (Kb : ∀ (S : St) (x1 : Int32) (x3 : Int32) (x4 : Int32) (x5 : Int32) (x6 : Int32) (H : Heap) (locs : List Loc) (ls : Array Slot), Wd shM idsM G A S H → va_S A s.heap H locs → lv_has ls 10 [(0, .ref (G.2.2 0 0)), (1, .int x1), (3, .int x3), (4, .int x4), (5, .int x5), (6, .int x6)] → kb S x1 x3 x4 x5 x6 = some out → W p l e rm_X9_fits s m args below meth c H locs 0 0 (MQ below (QI shM idsM G A out) args s 0 0 A) (F0 m 49 ls [])) : ∀ (S : St) (x1 : Int32) (x3 : Int32) (x4 : Int32) (x5 : Int32) (x6 : Int32) (x7 : Int32) (x9 : Int32) (H : Heap) (locs : List Loc) (ls : Array Slot), Wd shM idsM G A S H → va_S A s.heap H locs → lv_has ls 10 [(0, .ref (G.2.2 0 0)), (1, .int x1), (3, .int x3), (4, .int x4), (5, .int x5), (6, .int x6), (7, .int x7), (9, .int x9)] → j_X9_fits_125 kb S x1 x3 x4 x5 x6 x7 x9 = some out → W p l e rm_X9_fits s m args below meth c H locs 0 0 (MQ below (QI shM idsM G A out) args s 0 0 A) (F0 m 125 ls []) := by
  intro S x1 x3 x4 x5 x6 x7 x9 H locs ls hW hS hl h
  unfold j_X9_fits_125 at h
  refine lv_aload_n F.1 F.2.1 dX9_fits_125 rfl (lv_at hl 0 rfl) ?_
  refine rw_get (q0 := 0) F hK hW idM_0 rfl rfl in_X9_fits_X9 39 (by decide) lk_X9_fits_95 rfl dX9_fits_126 ?_
  refine lv_iload F.1 F.2.1 dX9_fits_129 (lv_at hl 7 rfl) ?_
  refine lv_iload F.1 F.2.1 dX9_fits_131 (lv_at hl 6 rfl) ?_
  obtain ⟨b_58, h⟩ := gd_some h
  refine rw_iast ndM (q0 := 29) F hK hW hS idM_29 (fun _ => rfl) (ix_in b_58) dX9_fits_133 (fun H locs S_59 eS_59 hW hS => ?_)
  have h := lt_n eS_59 h
  refine lv_goto (tgt := 291) F.1 F.2.1 dX9_fits_134 (by decide) ?_
  exact w_X9_fits_291 F hr hlk hK out kb Kb _ _ _ _ _ _ _ _ _  hW hS (lv_sub hl [0, 1, 2, 3, 4, 5] rfl) h
set_option maxHeartbeats 4000000 in
set_option maxRecDepth 100000 in
theorem w_X9_fits_49 {p : Program} {l : Launch} {e : Env} {s : State} {m : MethodId} {args : Array Value} {below : List Frame} {meth : Method} {c : Code} {G : GT} {A : Nat → Prop} (F : CallFix p m c cX9_fits 10 s args wsX9_fits RX9) (hr : meth.sig.returnType = (some .boolean)) (hlk : meth.locks = false) (hK : va_K G.1 vwCl (tyl G) s) (out : Int32 × St) : ∀ n : Nat, ∀ (S : St) (x1 : Int32) (x3 : Int32) (x4 : Int32) (x5 : Int32) (x6 : Int32) (H : Heap) (locs : List Loc) (ls : Array Slot), Wd shM idsM G A S H → va_S A s.heap H locs → lv_has ls 10 [(0, .ref (G.2.2 0 0)), (1, .int x1), (3, .int x3), (4, .int x4), (5, .int x5), (6, .int x6)] → l_X9_fits_49 n S x1 x3 x4 x5 x6 = some out → W p l e rm_X9_fits s m args below meth c H locs 0 0 (MQ below (QI shM idsM G A out) args s 0 0 A) (F0 m 49 ls []) := by
  intro n
  induction n with
  | zero =>
    intro S x1 x3 x4 x5 x6 H locs ls hW hS hl h
    cases h
  | succ n Kb =>
    generalize hkb : l_X9_fits_49 n = kb at Kb
    intro S x1 x3 x4 x5 x6 H locs ls hW hS hl h
    rw [show l_X9_fits_49 (n + 1) = b_X9_fits_49 (l_X9_fits_49 n) from rfl, hkb] at h
    unfold b_X9_fits_49 at h
    refine lv_iload F.1 F.2.1 dX9_fits_49 (lv_at hl 5 rfl) ?_
    refine lv_aload_n F.1 F.2.1 dX9_fits_51 rfl (lv_at hl 0 rfl) ?_
    refine rw_get (q0 := 0) F hK hW idM_0 rfl rfl in_X9_fits_X9 26 (by decide) lk_X9_fits_65 rfl dX9_fits_52 ?_
    refine lv_iload_n F.1 F.2.1 dX9_fits_55 rfl (lv_at hl 1 rfl) ?_
    obtain ⟨b_10, h⟩ := gd_some h
    refine rw_iald (q0 := 19) F hK hW idM_19 (fun _ => rfl) (ix_in b_10) dX9_fits_56 ?_
    refine lv_topi (fun v_11 ev_11 => ?_)
    have h := lt_n ev_11 h
    refine lv_icmp_ge (tgt := 297) F.1 F.2.1 dX9_fits_57 (by decide) (fun c_12 => ?_) (fun c_12 => ?_)
    · have h := (if_pos c_12).symm.trans h
      refine lv_iconst (v := 1) F.1 F.2.1 dX9_fits_297 (by decide) ?_
      exact rw_retz F hr hlk hK hW hS (by decide) h dX9_fits_298
    · have h := (if_neg c_12).symm.trans h
      refine lv_aload_n F.1 F.2.1 dX9_fits_60 rfl (lv_at hl 0 rfl) ?_
      refine rw_get (q0 := 0) F hK hW idM_0 rfl rfl in_X9_fits_X9 38 (by decide) lk_X9_fits_92 rfl dX9_fits_61 ?_
      refine lv_iload F.1 F.2.1 dX9_fits_64 (lv_at hl 5 rfl) ?_
      obtain ⟨b_13, h⟩ := gd_some h
      refine rw_iald (q0 := 28) F hK hW idM_28 (fun _ => rfl) (ix_in b_13) dX9_fits_66 ?_
      refine lv_topi (fun v_14 ev_14 => ?_)
      have h := lt_n ev_14 h
      refine lv_istore (lv' := [(7, .int v_14), (0, .ref (G.2.2 0 0)), (1, .int x1), (3, .int x3), (4, .int x4), (5, .int x5), (6, .int x6)]) F.1 F.2.1 dX9_fits_67 hl (by decide) rfl (fun ls hl => ?_)
      refine lv_aload_n F.1 F.2.1 dX9_fits_69 rfl (lv_at hl 1 rfl) ?_
      refine rw_get (q0 := 0) F hK hW idM_0 rfl rfl in_X9_fits_X9 29 (by decide) lk_X9_fits_74 rfl dX9_fits_70 ?_
      refine lv_iload F.1 F.2.1 dX9_fits_73 (lv_at hl 4 rfl) ?_
      refine lv_iload F.1 F.2.1 dX9_fits_75 (lv_at hl 6 rfl) ?_
      refine lv_iadd F.1 F.2.1 dX9_fits_77 ?_
      obtain ⟨b_15, h⟩ := gd_some h
      refine rw_iald (q0 := 22) F hK hW idM_22 (fun _ => rfl) (ix_in b_15) dX9_fits_78 ?_
      refine lv_topi (fun v_16 ev_16 => ?_)
      have h := lt_n ev_16 h
      refine lv_istore (lv' := [(8, .int v_16), (7, .int v_14), (0, .ref (G.2.2 0 0)), (1, .int x1), (3, .int x3), (4, .int x4), (5, .int x5), (6, .int x6)]) F.1 F.2.1 dX9_fits_79 hl (by decide) rfl (fun ls hl => ?_)
      refine lv_iload F.1 F.2.1 dX9_fits_81 (lv_at hl 0 rfl) ?_
      refine lv_iconst (v := 3) F.1 F.2.1 dX9_fits_83 (by decide) ?_
      refine lv_icmp_ne (tgt := 137) F.1 F.2.1 dX9_fits_84 (by decide) (fun c_17 => ?_) (fun c_17 => ?_)
      · have h := (if_neg c_17).symm.trans h
        refine lv_aload_n F.1 F.2.1 dX9_fits_137 rfl (lv_at hl 2 rfl) ?_
        refine rw_get (q0 := 0) F hK hW idM_0 rfl rfl in_X9_fits_X9 12 (by decide) lk_X9_fits_31 rfl dX9_fits_138 ?_
        refine lv_iload F.1 F.2.1 dX9_fits_141 (lv_at hl 1 rfl) ?_
        obtain ⟨b_18, h⟩ := gd_some h
        refine rw_iald (q0 := 8) F hK hW idM_8 (fun _ => rfl) (ix_in b_18) dX9_fits_143 ?_
        refine lv_topi (fun v_19 ev_19 => ?_)
        have h := lt_n ev_19 h
        refine lv_iload F.1 F.2.1 dX9_fits_144 (lv_at hl 0 rfl) ?_
        refine lv_icmp_ne (tgt := 164) F.1 F.2.1 dX9_fits_146 (by decide) (fun c_20 => ?_) (fun c_20 => ?_)
        · have h := (if_neg c_20).symm.trans h
          refine lv_iconst (v := 0) F.1 F.2.1 dX9_fits_164 (by decide) ?_
          exact rw_retz F hr hlk hK hW hS (by decide) h dX9_fits_165
        · have h := (if_pos c_20).symm.trans h
          refine lv_iload F.1 F.2.1 dX9_fits_149 (lv_at hl 7 rfl) ?_
          refine lv_if_le (tgt := 166) F.1 F.2.1 dX9_fits_151 (by decide) (fun c_21 => ?_) (fun c_21 => ?_)
          · have h := (if_pos c_21).symm.trans h
            exact w_X9_fits_166 F hr hlk hK out kb Kb _ _ _ _ _ _ _ _ _ _ _  hW hS (lv_sub hl [2, 3, 4, 5, 6, 7, 1, 0] rfl) h
          · have h := (if_neg c_21).symm.trans h
            refine lv_aload_n F.1 F.2.1 dX9_fits_154 rfl (lv_at hl 2 rfl) ?_
            refine rw_get (q0 := 0) F hK hW idM_0 rfl rfl in_X9_fits_X9 18 (by decide) lk_X9_fits_50 rfl dX9_fits_155 ?_
            refine lv_iload F.1 F.2.1 dX9_fits_158 (lv_at hl 1 rfl) ?_
            obtain ⟨b_50, h⟩ := gd_some h
            refine rw_zald (q0 := 14) F hK hW idM_14 (fun _ => rfl) (ix_in b_50) dX9_fits_160 ?_
            refine lv_topi (fun v_51 ev_51 => ?_)
            have h := lt_n ev_51 h
            refine lv_if_eq (tgt := 166) F.1 F.2.1 dX9_fits_161 (by decide) (fun c_52 => ?_) (fun c_52 => ?_)
            · have h := (if_pos c_52).symm.trans h
              exact w_X9_fits_166 F hr hlk hK out kb Kb _ _ _ _ _ _ _ _ _ _ _  hW hS (lv_sub hl [2, 3, 4, 5, 6, 7, 1, 0] rfl) h
            · have h := (if_neg c_52).symm.trans h
              refine lv_iconst (v := 0) F.1 F.2.1 dX9_fits_164 (by decide) ?_
              exact rw_retz F hr hlk hK hW hS (by decide) h dX9_fits_165
      · have h := (if_pos c_17).symm.trans h
        refine lv_aload_n F.1 F.2.1 dX9_fits_87 rfl (lv_at hl 2 rfl) ?_
        refine rw_get (q0 := 0) F hK hW idM_0 rfl rfl in_X9_fits_X9 30 (by decide) lk_X9_fits_77 rfl dX9_fits_88 ?_
        refine lv_iload F.1 F.2.1 dX9_fits_91 (lv_at hl 5 rfl) ?_
        refine lv_iload F.1 F.2.1 dX9_fits_93 (lv_at hl 7 rfl) ?_
        refine lv_iadd F.1 F.2.1 dX9_fits_95 ?_
        obtain ⟨b_53, h⟩ := gd_some h
        refine rw_iald (q0 := 23) F hK hW idM_23 (fun _ => rfl) (ix_in b_53) dX9_fits_96 ?_
        refine lv_topi (fun v_54 ev_54 => ?_)
        have h := lt_n ev_54 h
        refine lv_istore (lv' := [(9, .int v_54), (8, .int v_16), (7, .int v_14), (0, .ref (G.2.2 0 0)), (1, .int x1), (3, .int x3), (4, .int x4), (5, .int x5), (6, .int x6)]) F.1 F.2.1 dX9_fits_97 hl (by decide) rfl (fun ls hl => ?_)
        refine lv_aload_n F.1 F.2.1 dX9_fits_99 rfl (lv_at hl 3 rfl) ?_
        refine rw_get (q0 := 0) F hK hW idM_0 rfl rfl in_X9_fits_X9 39 (by decide) lk_X9_fits_95 rfl dX9_fits_100 ?_
        refine lv_iload F.1 F.2.1 dX9_fits_103 (lv_at hl 0 rfl) ?_
        obtain ⟨b_55, h⟩ := gd_some h
        refine rw_iald (q0 := 29) F hK hW idM_29 (fun _ => rfl) (ix_in b_55) dX9_fits_105 ?_
        refine lv_topi (fun v_56 ev_56 => ?_)
        have h := lt_n ev_56 h
        refine lv_bipush (v := -4) F.1 F.2.1 dX9_fits_106 (by decide) ?_
        refine lv_icmp_eq (tgt := 125) F.1 F.2.1 dX9_fits_108 (by decide) (fun c_57 => ?_) (fun c_57 => ?_)
        · have h := (if_pos c_57).symm.trans h
          exact w_X9_fits_125 F hr hlk hK out kb Kb _ _ _ _ _ _ _ _ _ _ _  hW hS (lv_sub hl [3, 4, 5, 6, 7, 8, 2, 0] rfl) h
        · have h := (if_neg c_57).symm.trans h
          refine lv_aload_n F.1 F.2.1 dX9_fits_111 rfl (lv_at hl 3 rfl) ?_
          refine rw_get (q0 := 0) F hK hW idM_0 rfl rfl in_X9_fits_X9 39 (by decide) lk_X9_fits_95 rfl dX9_fits_112 ?_
          refine lv_iload F.1 F.2.1 dX9_fits_115 (lv_at hl 0 rfl) ?_
          obtain ⟨b_60, h⟩ := gd_some h
          refine rw_iald (q0 := 29) F hK hW idM_29 (fun _ => rfl) (ix_in b_60) dX9_fits_117 ?_
          refine lv_topi (fun v_61 ev_61 => ?_)
          have h := lt_n ev_61 h
          refine lv_iload F.1 F.2.1 dX9_fits_118 (lv_at hl 2 rfl) ?_
          refine lv_icmp_eq (tgt := 125) F.1 F.2.1 dX9_fits_120 (by decide) (fun c_62 => ?_) (fun c_62 => ?_)
          · have h := (if_pos c_62).symm.trans h
            exact w_X9_fits_125 F hr hlk hK out kb Kb _ _ _ _ _ _ _ _ _ _ _  hW hS (lv_sub hl [3, 4, 5, 6, 7, 8, 2, 0] rfl) h
          · have h := (if_neg c_62).symm.trans h
            refine lv_iconst (v := 0) F.1 F.2.1 dX9_fits_123 (by decide) ?_
            exact rw_retz F hr hlk hK hW hS (by decide) h dX9_fits_124
set_option maxHeartbeats 4000000 in
set_option maxRecDepth 100000 in
theorem c_X9_fits (l : Launch) (G : GT) (A : Nat → Prop) (a0 : Int32) (a1 : Int32) (a2 : Int32) (S : St) (out : Int32 × St) (h : f_X9_fits a0 a1 a2 S = some out) : Met l yX9_fits wsX9_fits rm_X9_fits (va_Pc [.ref (G.2.2 0 0), .int a0, .int a1, .int a2] (WD shM idsM G A S)) (QI shM idsM G A out) 0 0 A := by
  refine Met.ofW (cc := cX9_fits) (maxL := 10) (ret := (some .boolean)) (by decide) rfl ?_
  intro p e s m args below meth c s₁ B hml hv
  obtain ⟨rfl, hW, hK⟩ := hv
  have F : CallFix p m c cX9_fits 10 s _ wsX9_fits RX9 := ⟨B.exec, B.bytes, hml, findClass_of_methodNamed B.named, atoms_spec (ws := wsX9_fits) B.pre⟩
  have hr := B.returns
  have hlk := B.notSynchronized
  have hS : va_S A s.heap s.heap [] := va_S.rf
  have hl := lv_entry ([.ref (G.2.2 0 0), .int a0, .int a1, .int a2]) (n := 10) (Nat.le_of_ble_eq_true rfl)
  rw [lg_entry_eq]
  generalize (lg_sl ([.ref (G.2.2 0 0), .int a0, .int a1, .int a2]) ++ List.replicate (10 - (lg_sl ([.ref (G.2.2 0 0), .int a0, .int a1, .int a2])).length) Slot.unset).toArray = ls at hl ⊢
  have hl : lv_has ls 10 [(0, .ref (G.2.2 0 0)), (1, .int a0), (2, .int a1), (3, .int a2)] := hl
  unfold f_X9_fits at h
  refine lv_bipush (v := 12) F.1 F.2.1 dX9_fits_0 (by decide) ?_
  refine lv_iload_n F.1 F.2.1 dX9_fits_2 rfl (lv_at hl 1 rfl) ?_
  refine lv_imul F.1 F.2.1 dX9_fits_3 ?_
  refine lv_topi (fun v_1 ev_1 => ?_)
  have h := lt_n ev_1 h
  refine lv_istore (lv' := [(4, .int v_1), (0, .ref (G.2.2 0 0)), (1, .int a0), (2, .int a1), (3, .int a2)]) F.1 F.2.1 dX9_fits_4 hl (by decide) rfl (fun ls hl => ?_)
  refine lv_aload_n F.1 F.2.1 dX9_fits_6 rfl (lv_at hl 1 rfl) ?_
  refine rw_get (q0 := 0) F hK hW idM_0 rfl rfl in_X9_fits_X9 27 (by decide) lk_X9_fits_68 rfl dX9_fits_7 ?_
  refine lv_iload_n F.1 F.2.1 dX9_fits_10 rfl (lv_at hl 2 rfl) ?_
  obtain ⟨b_2, h⟩ := gd_some h
  refine rw_iald (q0 := 20) F hK hW idM_20 (fun _ => rfl) (ix_in b_2) dX9_fits_11 ?_
  refine lv_topi (fun v_3 ev_3 => ?_)
  have h := lt_n ev_3 h
  refine lv_istore (lv' := [(5, .int v_3), (4, .int v_1), (0, .ref (G.2.2 0 0)), (1, .int a0), (2, .int a1), (3, .int a2)]) F.1 F.2.1 dX9_fits_12 hl (by decide) rfl (fun ls hl => ?_)
  refine lv_iconst (v := 0) F.1 F.2.1 dX9_fits_14 (by decide) ?_
  refine lv_istore (lv' := [(6, .int 0), (5, .int v_3), (4, .int v_1), (0, .ref (G.2.2 0 0)), (1, .int a0), (2, .int a1), (3, .int a2)]) F.1 F.2.1 dX9_fits_15 hl (by decide) rfl (fun ls hl => ?_)
  refine w_X9_fits_17 F hr hlk hK out _ ?_ 5000 _ _ _ _ _ _ _ _ _ _  hW hS (lv_sub hl [3, 4, 5, 6, 2, 1, 0] rfl) h
  · intro S x1 x2 x3 x4 x5 H locs ls hW hS hl h
    refine lv_aload_n F.1 F.2.1 dX9_fits_39 rfl (lv_at hl 0 rfl) ?_
    refine rw_get (q0 := 0) F hK hW idM_0 rfl rfl in_X9_fits_X9 38 (by decide) lk_X9_fits_92 rfl dX9_fits_40 ?_
    refine lv_iconst (v := 0) F.1 F.2.1 dX9_fits_43 (by decide) ?_
    refine lv_iload_n F.1 F.2.1 dX9_fits_44 rfl (lv_at hl 2 rfl) ?_
    obtain ⟨b_8, h⟩ := gd_some h
    refine rw_iast ndM (q0 := 28) F hK hW hS idM_28 (fun _ => rfl) (ix_in b_8) dX9_fits_45 (fun H locs S_9 eS_9 hW hS => ?_)
    have h := lt_n eS_9 h
    refine lv_iconst (v := 0) F.1 F.2.1 dX9_fits_46 (by decide) ?_
    refine lv_istore (lv' := [(6, .int 0), (0, .ref (G.2.2 0 0)), (1, .int x1), (2, .int x2), (3, .int x3), (4, .int x4), (5, .int x5)]) F.1 F.2.1 dX9_fits_47 hl (by decide) rfl (fun ls hl => ?_)
    refine w_X9_fits_49 F hr hlk hK out   5000 _ _ _ _ _ _ _ _ _  hW hS (lv_sub hl [1, 2, 4, 5, 6, 0] rfl) h
/-! CellCoverModel.canMatch(II)Z -/
abbrev rm_X9_canMatch : Room := { frames := 2, cells := 0, slots := 0, locals := 46 }
theorem in_X9_canMatch_X9 : ∀ w ∈ wsX90, w ∈ wsX9_canMatch := by decide +kernel
theorem lk_X9_canMatch_46 : Cond.fieldLink RX9 46 "CellCoverModel" "lives" "[Z" ∈ wsX9_canMatch := by decide +kernel
set_option maxHeartbeats 4000000 in
set_option maxRecDepth 100000 in
theorem w_X9_canMatch_30 {p : Program} {l : Launch} {e : Env} {s : State} {m : MethodId} {args : Array Value} {below : List Frame} {meth : Method} {c : Code} {G : GT} {A : Nat → Prop} (F : CallFix p m c cX9_canMatch 3 s args wsX9_canMatch RX9) (hr : meth.sig.returnType = (some .boolean)) (hlk : meth.locks = false) (hK : va_K G.1 vwCl (tyl G) s) (out : Int32 × St) : ∀ (S : St) (y0 : Int32) (H : Heap) (locs : List Loc) (ls : Array Slot), Wd shM idsM G A S H → va_S A s.heap H locs → lv_has ls 3 [] → j_X9_canMatch_30 S y0 = some out → W p l e rm_X9_canMatch s m args below meth c H locs 0 0 (MQ below (QI shM idsM G A out) args s 0 0 A) (F0 m 30 ls [.int y0]) := by
  intro S y0 H locs ls hW hS hl h
  unfold j_X9_canMatch_30 at h
  obtain ⟨b_5, h⟩ := gd_some h
  exact rw_retz F hr hlk hK hW hS b_5 h dX9_canMatch_30
set_option maxHeartbeats 4000000 in
set_option maxRecDepth 100000 in
theorem w_X9_canMatch_29 {p : Program} {l : Launch} {e : Env} {s : State} {m : MethodId} {args : Array Value} {below : List Frame} {meth : Method} {c : Code} {G : GT} {A : Nat → Prop} (F : CallFix p m c cX9_canMatch 3 s args wsX9_canMatch RX9) (hr : meth.sig.returnType = (some .boolean)) (hlk : meth.locks = false) (hK : va_K G.1 vwCl (tyl G) s) (out : Int32 × St) : ∀ (S : St) (H : Heap) (locs : List Loc) (ls : Array Slot), Wd shM idsM G A S H → va_S A s.heap H locs → lv_has ls 3 [] → j_X9_canMatch_29 S = some out → W p l e rm_X9_canMatch s m args below meth c H locs 0 0 (MQ below (QI shM idsM G A out) args s 0 0 A) (F0 m 29 ls []) := by
  intro S H locs ls hW hS hl h
  unfold j_X9_canMatch_29 at h
  refine lv_iconst (v := 0) F.1 F.2.1 dX9_canMatch_29 (by decide) ?_
  exact w_X9_canMatch_30 F hr hlk hK out  _ _ _ _ _  hW hS hl h
set_option maxHeartbeats 4000000 in
set_option maxRecDepth 100000 in
theorem c_X9_canMatch (l : Launch) (G : GT) (A : Nat → Prop) (a0 : Int32) (a1 : Int32) (S : St) (out : Int32 × St) (h : f_X9_canMatch a0 a1 S = some out) : Met l yX9_canMatch wsX9_canMatch rm_X9_canMatch (va_Pc [.ref (G.2.2 0 0), .int a0, .int a1] (WD shM idsM G A S)) (QI shM idsM G A out) 0 0 A := by
  refine Met.ofW (cc := cX9_canMatch) (maxL := 3) (ret := (some .boolean)) (by decide) rfl ?_
  intro p e s m args below meth c s₁ B hml hv
  obtain ⟨rfl, hW, hK⟩ := hv
  have F : CallFix p m c cX9_canMatch 3 s _ wsX9_canMatch RX9 := ⟨B.exec, B.bytes, hml, findClass_of_methodNamed B.named, atoms_spec (ws := wsX9_canMatch) B.pre⟩
  have hr := B.returns
  have hlk := B.notSynchronized
  have hS : va_S A s.heap s.heap [] := va_S.rf
  have hl := lv_entry ([.ref (G.2.2 0 0), .int a0, .int a1]) (n := 3) (Nat.le_of_ble_eq_true rfl)
  rw [lg_entry_eq]
  generalize (lg_sl ([.ref (G.2.2 0 0), .int a0, .int a1]) ++ List.replicate (3 - (lg_sl ([.ref (G.2.2 0 0), .int a0, .int a1])).length) Slot.unset).toArray = ls at hl ⊢
  have hl : lv_has ls 3 [(0, .ref (G.2.2 0 0)), (1, .int a0), (2, .int a1)] := hl
  unfold f_X9_canMatch at h
  refine lv_aload_n F.1 F.2.1 dX9_canMatch_0 rfl (lv_at hl 0 rfl) ?_
  refine lv_iload_n F.1 F.2.1 dX9_canMatch_1 rfl (lv_at hl 1 rfl) ?_
  obtain ⟨r_2, S_3, hq_1, h⟩ := bi_some h
  refine rw_vi F hK hW hS [.int a0] (rest := []) (c_X9_isCell l G A a0 S (r_2, S_3) hq_1) (cwV 1 F.2.2.2.2 gX9_canMatch_X9_isCell rfl rfl rfl (by decide +kernel) ⟨Nat.le_of_ble_eq_true rfl, Nat.le_of_ble_eq_true rfl⟩) (rw_recv (q0 := 0) hK hW idM_0 rfl rfl) rfl hl.1 rfl (Nat.le_of_ble_eq_true rfl) dX9_canMatch_2 (fun H locs hW hS => ?_)
  refine lv_if_eq (tgt := 29) F.1 F.2.1 dX9_canMatch_5 (by decide) (fun c_4 => ?_) (fun c_4 => ?_)
  · have h := (if_pos c_4).symm.trans h
    exact w_X9_canMatch_29 F hr hlk hK out  _ _ _ _  hW hS (lv_sub hl [] rfl) h
  · have h := (if_neg c_4).symm.trans h
    refine lv_aload_n F.1 F.2.1 dX9_canMatch_8 rfl (lv_at hl 0 rfl) ?_
    refine lv_iload_n F.1 F.2.1 dX9_canMatch_9 rfl (lv_at hl 2 rfl) ?_
    obtain ⟨r_7, S_8, hq_6, h⟩ := bi_some h
    refine rw_vi F hK hW hS [.int a1] (rest := []) (c_X9_isVertex l G A a1 S_3 (r_7, S_8) hq_6) (cwV 1 F.2.2.2.2 gX9_canMatch_X9_isVertex rfl rfl rfl (by decide +kernel) ⟨Nat.le_of_ble_eq_true rfl, Nat.le_of_ble_eq_true rfl⟩) (rw_recv (q0 := 0) hK hW idM_0 rfl rfl) rfl hl.1 rfl (Nat.le_of_ble_eq_true rfl) dX9_canMatch_10 (fun H locs hW hS => ?_)
    refine lv_if_eq (tgt := 29) F.1 F.2.1 dX9_canMatch_13 (by decide) (fun c_9 => ?_) (fun c_9 => ?_)
    · have h := (if_pos c_9).symm.trans h
      exact w_X9_canMatch_29 F hr hlk hK out  _ _ _ _  hW hS (lv_sub hl [] rfl) h
    · have h := (if_neg c_9).symm.trans h
      refine lv_aload_n F.1 F.2.1 dX9_canMatch_16 rfl (lv_at hl 0 rfl) ?_
      refine rw_get (q0 := 0) F hK hW idM_0 rfl rfl in_X9_canMatch_X9 17 (by decide) lk_X9_canMatch_46 rfl dX9_canMatch_17 ?_
      refine lv_iload_n F.1 F.2.1 dX9_canMatch_20 rfl (lv_at hl 2 rfl) ?_
      obtain ⟨b_10, h⟩ := gd_some h
      refine rw_zald (q0 := 13) F hK hW idM_13 (fun _ => rfl) (ix_in b_10) dX9_canMatch_21 ?_
      refine lv_topi (fun v_11 ev_11 => ?_)
      have h := lt_n ev_11 h
      refine lv_if_eq (tgt := 29) F.1 F.2.1 dX9_canMatch_22 (by decide) (fun c_12 => ?_) (fun c_12 => ?_)
      · have h := (if_pos c_12).symm.trans h
        exact w_X9_canMatch_29 F hr hlk hK out  _ _ _ _  hW hS (lv_sub hl [] rfl) h
      · have h := (if_neg c_12).symm.trans h
        refine lv_iconst (v := 1) F.1 F.2.1 dX9_canMatch_25 (by decide) ?_
        refine lv_goto (tgt := 30) F.1 F.2.1 dX9_canMatch_26 (by decide) ?_
        exact w_X9_canMatch_30 F hr hlk hK out  _ _ _ _ _  hW hS (lv_sub hl [] rfl) h
/-! CellCoverModel.matches(II)I -/
abbrev rm_X9_matches : Room := { frames := 3, cells := 0, slots := 0, locals := 68 }
theorem in_X9_matches_X9 : ∀ w ∈ wsX90, w ∈ wsX9_matches := by decide +kernel
theorem lk_X9_matches_68 : Cond.fieldLink RX9 68 "CellCoverModel" "nands" "[I" ∈ wsX9_matches := by decide +kernel
set_option maxHeartbeats 4000000 in
set_option maxRecDepth 100000 in
theorem w_X9_matches_46 {p : Program} {l : Launch} {e : Env} {s : State} {m : MethodId} {args : Array Value} {below : List Frame} {meth : Method} {c : Code} {G : GT} {A : Nat → Prop} (F : CallFix p m c cX9_matches 5 s args wsX9_matches RX9) (hr : meth.sig.returnType = (some .int)) (hlk : meth.locks = false) (hK : va_K G.1 vwCl (tyl G) s) (out : Int32 × St) (kb : St → Int32 → Int32 → Int32 → Int32 → Option (Int32 × St)) (Kb : ∀ (S : St) (x1 : Int32) (x2 : Int32) (x3 : Int32) (x4 : Int32) (H : Heap) (locs : List Loc) (ls : Array Slot), Wd shM idsM G A S H → va_S A s.heap H locs → lv_has ls 5 [(0, .ref (G.2.2 0 0)), (1, .int x1), (2, .int x2), (3, .int x3), (4, .int x4)] → kb S x1 x2 x3 x4 = some out → W p l e rm_X9_matches s m args below meth c H locs 0 0 (MQ below (QI shM idsM G A out) args s 0 0 A) (F0 m 16 ls [])) : ∀ (S : St) (x1 : Int32) (x2 : Int32) (x4 : Int32) (y0 : Int32) (y1 : Int32) (H : Heap) (locs : List Loc) (ls : Array Slot), Wd shM idsM G A S H → va_S A s.heap H locs → lv_has ls 5 [(0, .ref (G.2.2 0 0)), (1, .int x1), (2, .int x2), (4, .int x4)] → j_X9_matches_46 kb S x1 x2 x4 y0 y1 = some out → W p l e rm_X9_matches s m args below meth c H locs 0 0 (MQ below (QI shM idsM G A out) args s 0 0 A) (F0 m 46 ls [.int y1, .int y0]) := by
  intro S x1 x2 x4 y0 y1 H locs ls hW hS hl h
  unfold j_X9_matches_46 at h
  refine lv_iadd F.1 F.2.1 dX9_matches_46 ?_
  refine lv_topi (fun v_12 ev_12 => ?_)
  have h := lt_n ev_12 h
  refine lv_istore_n (lv' := [(3, .int v_12), (0, .ref (G.2.2 0 0)), (1, .int x1), (2, .int x2), (4, .int x4)]) F.1 F.2.1 dX9_matches_47 rfl hl (by decide) rfl (fun ls hl => ?_)
  obtain ⟨v_13, ev_13⟩ : ∃ y : Int32, y = x4 + 1 := ⟨_, rfl⟩
  have h := lt_n ev_13 h
  refine lv_iinc (v := v_13) (lv' := [(4, .int v_13), (3, .int v_12), (0, .ref (G.2.2 0 0)), (1, .int x1), (2, .int x2)]) F.1 F.2.1 dX9_matches_48 hl (k := 4) rfl (by rw [ev_13]; rfl) (by decide) rfl (fun ls hl => ?_)
  refine lv_goto (tgt := 16) F.1 F.2.1 dX9_matches_51 (by decide) ?_
  exact Kb _ _ _ _ _ _ _ _  hW hS (lv_sub hl [2, 3, 4, 1, 0] rfl) h
set_option maxHeartbeats 4000000 in
set_option maxRecDepth 100000 in
theorem w_X9_matches_16 {p : Program} {l : Launch} {e : Env} {s : State} {m : MethodId} {args : Array Value} {below : List Frame} {meth : Method} {c : Code} {G : GT} {A : Nat → Prop} (F : CallFix p m c cX9_matches 5 s args wsX9_matches RX9) (hr : meth.sig.returnType = (some .int)) (hlk : meth.locks = false) (hK : va_K G.1 vwCl (tyl G) s) (out : Int32 × St) : ∀ n : Nat, ∀ (S : St) (x1 : Int32) (x2 : Int32) (x3 : Int32) (x4 : Int32) (H : Heap) (locs : List Loc) (ls : Array Slot), Wd shM idsM G A S H → va_S A s.heap H locs → lv_has ls 5 [(0, .ref (G.2.2 0 0)), (1, .int x1), (2, .int x2), (3, .int x3), (4, .int x4)] → l_X9_matches_16 n S x1 x2 x3 x4 = some out → W p l e rm_X9_matches s m args below meth c H locs 0 0 (MQ below (QI shM idsM G A out) args s 0 0 A) (F0 m 16 ls []) := by
  intro n
  induction n with
  | zero =>
    intro S x1 x2 x3 x4 H locs ls hW hS hl h
    cases h
  | succ n Kb =>
    generalize hkb : l_X9_matches_16 n = kb at Kb
    intro S x1 x2 x3 x4 H locs ls hW hS hl h
    rw [show l_X9_matches_16 (n + 1) = b_X9_matches_16 (l_X9_matches_16 n) from rfl, hkb] at h
    unfold b_X9_matches_16 at h
    refine lv_iload F.1 F.2.1 dX9_matches_16 (lv_at hl 4 rfl) ?_
    refine lv_iconst (v := 1) F.1 F.2.1 dX9_matches_18 (by decide) ?_
    refine lv_aload_n F.1 F.2.1 dX9_matches_19 rfl (lv_at hl 0 rfl) ?_
    refine rw_get (q0 := 0) F hK hW idM_0 rfl rfl in_X9_matches_X9 27 (by decide) lk_X9_matches_68 rfl dX9_matches_20 ?_
    refine lv_iload_n F.1 F.2.1 dX9_matches_23 rfl (lv_at hl 1 rfl) ?_
    obtain ⟨b_5, h⟩ := gd_some h
    refine rw_iald (q0 := 20) F hK hW idM_20 (fun _ => rfl) (ix_in b_5) dX9_matches_24 ?_
    refine lv_topi (fun v_6 ev_6 => ?_)
    have h := lt_n ev_6 h
    refine lv_ishl F.1 F.2.1 dX9_matches_25 ?_
    refine lv_icmp_ge (tgt := 54) F.1 F.2.1 dX9_matches_26 (by decide) (fun c_7 => ?_) (fun c_7 => ?_)
    · have h := (if_pos c_7).symm.trans h
      refine lv_iload_n F.1 F.2.1 dX9_matches_54 rfl (lv_at hl 3 rfl) ?_
      exact rw_ret F hr hlk hK hW hS h dX9_matches_55
    · have h := (if_neg c_7).symm.trans h
      refine lv_iload_n F.1 F.2.1 dX9_matches_29 rfl (lv_at hl 3 rfl) ?_
      refine lv_aload_n F.1 F.2.1 dX9_matches_30 rfl (lv_at hl 0 rfl) ?_
      refine lv_iload_n F.1 F.2.1 dX9_matches_31 rfl (lv_at hl 1 rfl) ?_
      refine lv_iload_n F.1 F.2.1 dX9_matches_32 rfl (lv_at hl 2 rfl) ?_
      refine lv_iload F.1 F.2.1 dX9_matches_33 (lv_at hl 4 rfl) ?_
      obtain ⟨r_9, S_10, hq_8, h⟩ := bi_some h
      refine rw_vi F hK hW hS [.int x1, .int x2, .int x4] (rest := [.int x3]) (c_X9_fits l G A x1 x2 x4 S (r_9, S_10) hq_8) (cwV 3 F.2.2.2.2 gX9_matches_X9_fits rfl rfl rfl (by decide +kernel) ⟨Nat.le_of_ble_eq_true rfl, Nat.le_of_ble_eq_true rfl⟩) (rw_recv (q0 := 0) hK hW idM_0 rfl rfl) rfl hl.1 rfl (Nat.le_of_ble_eq_true rfl) dX9_matches_35 (fun H locs hW hS => ?_)
      refine lv_if_eq (tgt := 45) F.1 F.2.1 dX9_matches_38 (by decide) (fun c_11 => ?_) (fun c_11 => ?_)
      · have h := (if_pos c_11).symm.trans h
        refine lv_iconst (v := 0) F.1 F.2.1 dX9_matches_45 (by decide) ?_
        exact w_X9_matches_46 F hr hlk hK out kb Kb _ _ _ _ _ _ _ _ _  hW hS (lv_sub hl [0, 1, 2, 4] rfl) h
      · have h := (if_neg c_11).symm.trans h
        refine lv_iconst (v := 1) F.1 F.2.1 dX9_matches_41 (by decide) ?_
        refine lv_goto (tgt := 46) F.1 F.2.1 dX9_matches_42 (by decide) ?_
        exact w_X9_matches_46 F hr hlk hK out kb Kb _ _ _ _ _ _ _ _ _  hW hS (lv_sub hl [0, 1, 2, 4] rfl) h
set_option maxHeartbeats 4000000 in
set_option maxRecDepth 100000 in
theorem c_X9_matches (l : Launch) (G : GT) (A : Nat → Prop) (a0 : Int32) (a1 : Int32) (S : St) (out : Int32 × St) (h : f_X9_matches a0 a1 S = some out) : Met l yX9_matches wsX9_matches rm_X9_matches (va_Pc [.ref (G.2.2 0 0), .int a0, .int a1] (WD shM idsM G A S)) (QI shM idsM G A out) 0 0 A := by
  refine Met.ofW (cc := cX9_matches) (maxL := 5) (ret := (some .int)) (by decide) rfl ?_
  intro p e s m args below meth c s₁ B hml hv
  obtain ⟨rfl, hW, hK⟩ := hv
  have F : CallFix p m c cX9_matches 5 s _ wsX9_matches RX9 := ⟨B.exec, B.bytes, hml, findClass_of_methodNamed B.named, atoms_spec (ws := wsX9_matches) B.pre⟩
  have hr := B.returns
  have hlk := B.notSynchronized
  have hS : va_S A s.heap s.heap [] := va_S.rf
  have hl := lv_entry ([.ref (G.2.2 0 0), .int a0, .int a1]) (n := 5) (Nat.le_of_ble_eq_true rfl)
  rw [lg_entry_eq]
  generalize (lg_sl ([.ref (G.2.2 0 0), .int a0, .int a1]) ++ List.replicate (5 - (lg_sl ([.ref (G.2.2 0 0), .int a0, .int a1])).length) Slot.unset).toArray = ls at hl ⊢
  have hl : lv_has ls 5 [(0, .ref (G.2.2 0 0)), (1, .int a0), (2, .int a1)] := hl
  unfold f_X9_matches at h
  refine lv_aload_n F.1 F.2.1 dX9_matches_0 rfl (lv_at hl 0 rfl) ?_
  refine lv_iload_n F.1 F.2.1 dX9_matches_1 rfl (lv_at hl 1 rfl) ?_
  refine lv_iload_n F.1 F.2.1 dX9_matches_2 rfl (lv_at hl 2 rfl) ?_
  obtain ⟨r_2, S_3, hq_1, h⟩ := bi_some h
  refine rw_vi F hK hW hS [.int a0, .int a1] (rest := []) (c_X9_canMatch l G A a0 a1 S (r_2, S_3) hq_1) (cwV 2 F.2.2.2.2 gX9_matches_X9_canMatch rfl rfl rfl (by decide +kernel) ⟨Nat.le_of_ble_eq_true rfl, Nat.le_of_ble_eq_true rfl⟩) (rw_recv (q0 := 0) hK hW idM_0 rfl rfl) rfl hl.1 rfl (Nat.le_of_ble_eq_true rfl) dX9_matches_3 (fun H locs hW hS => ?_)
  refine lv_if_ne (tgt := 11) F.1 F.2.1 dX9_matches_6 (by decide) (fun c_4 => ?_) (fun c_4 => ?_)
  · have h := (if_neg c_4).symm.trans h
    refine lv_iconst (v := 0) F.1 F.2.1 dX9_matches_11 (by decide) ?_
    refine lv_istore_n (lv' := [(3, .int 0), (0, .ref (G.2.2 0 0)), (1, .int a0), (2, .int a1)]) F.1 F.2.1 dX9_matches_12 rfl hl (by decide) rfl (fun ls hl => ?_)
    refine lv_iconst (v := 0) F.1 F.2.1 dX9_matches_13 (by decide) ?_
    refine lv_istore (lv' := [(4, .int 0), (3, .int 0), (0, .ref (G.2.2 0 0)), (1, .int a0), (2, .int a1)]) F.1 F.2.1 dX9_matches_14 hl (by decide) rfl (fun ls hl => ?_)
    refine w_X9_matches_16 F hr hlk hK out   5000 _ _ _ _ _ _ _ _  hW hS (lv_sub hl [2, 3, 4, 1, 0] rfl) h
  · have h := (if_pos c_4).symm.trans h
    refine lv_iconst (v := -1) F.1 F.2.1 dX9_matches_9 (by decide) ?_
    exact rw_ret F hr hlk hK hW hS h dX9_matches_10
/-! CellCoverModel.match(IIII)I -/
abbrev rm_X9_match : Room := { frames := 3, cells := 0, slots := 0, locals := 68 }
theorem in_X9_match_X9 : ∀ w ∈ wsX90, w ∈ wsX9_match := by decide +kernel
theorem lk_X9_match_184 : Cond.constantLong RX9 184 5 ∈ wsX9_match := by decide +kernel
theorem lk_X9_match_68 : Cond.fieldLink RX9 68 "CellCoverModel" "nands" "[I" ∈ wsX9_match := by decide +kernel
theorem lk_X9_match_95 : Cond.fieldLink RX9 95 "CellCoverModel" "pins" "[I" ∈ wsX9_match := by decide +kernel
set_option maxHeartbeats 4000000 in
set_option maxRecDepth 100000 in
theorem w_X9_match_22 {p : Program} {l : Launch} {e : Env} {s : State} {m : MethodId} {args : Array Value} {below : List Frame} {meth : Method} {c : Code} {G : GT} {A : Nat → Prop} (F : CallFix p m c cX9_match 7 s args wsX9_match RX9) (hr : meth.sig.returnType = (some .int)) (hlk : meth.locks = false) (hK : va_K G.1 vwCl (tyl G) s) (out : Int32 × St) : ∀ (S : St) (H : Heap) (locs : List Loc) (ls : Array Slot), Wd shM idsM G A S H → va_S A s.heap H locs → lv_has ls 7 [] → j_X9_match_22 S = some out → W p l e rm_X9_match s m args below meth c H locs 0 0 (MQ below (QI shM idsM G A out) args s 0 0 A) (F0 m 22 ls []) := by
  intro S H locs ls hW hS hl h
  unfold j_X9_match_22 at h
  refine lv_iconst (v := -1) F.1 F.2.1 dX9_match_22 (by decide) ?_
  exact rw_ret F hr hlk hK hW hS h dX9_match_23
set_option maxHeartbeats 4000000 in
set_option maxRecDepth 100000 in
theorem w_X9_match_71 {p : Program} {l : Launch} {e : Env} {s : State} {m : MethodId} {args : Array Value} {below : List Frame} {meth : Method} {c : Code} {G : GT} {A : Nat → Prop} (F : CallFix p m c cX9_match 7 s args wsX9_match RX9) (hr : meth.sig.returnType = (some .int)) (hlk : meth.locks = false) (hK : va_K G.1 vwCl (tyl G) s) (out : Int32 × St) (kb : St → Int32 → Int32 → Int32 → Int32 → Int32 → Int32 → Option (Int32 × St)) (Kb : ∀ (S : St) (x1 : Int32) (x2 : Int32) (x3 : Int32) (x4 : Int32) (x5 : Int32) (x6 : Int32) (H : Heap) (locs : List Loc) (ls : Array Slot), Wd shM idsM G A S H → va_S A s.heap H locs → lv_has ls 7 [(0, .ref (G.2.2 0 0)), (1, .int x1), (2, .int x2), (3, .int x3), (4, .int x4), (5, .int x5), (6, .int x6)] → kb S x1 x2 x3 x4 x5 x6 = some out → W p l e rm_X9_match s m args below meth c H locs 0 0 (MQ below (QI shM idsM G A out) args s 0 0 A) (F0 m 30 ls [])) : ∀ (S : St) (x1 : Int32) (x2 : Int32) (x3 : Int32) (x4 : Int32) (x5 : Int32) (x6 : Int32) (H : Heap) (locs : List Loc) (ls : Array Slot), Wd shM idsM G A S H → va_S A s.heap H locs → lv_has ls 7 [(0, .ref (G.2.2 0 0)), (1, .int x1), (2, .int x2), (3, .int x3), (4, .int x4), (5, .int x5), (6, .int x6)] → j_X9_match_71 kb S x1 x2 x3 x4 x5 x6 = some out → W p l e rm_X9_match s m args below meth c H locs 0 0 (MQ below (QI shM idsM G A out) args s 0 0 A) (F0 m 71 ls []) := by
  intro S x1 x2 x3 x4 x5 x6 H locs ls hW hS hl h
  unfold j_X9_match_71 at h
  obtain ⟨v_16, ev_16⟩ : ∃ y : Int32, y = x6 + 1 := ⟨_, rfl⟩
  have h := lt_n ev_16 h
  refine lv_iinc (v := v_16) (lv' := [(6, .int v_16), (0, .ref (G.2.2 0 0)), (1, .int x1), (2, .int x2), (3, .int x3), (4, .int x4), (5, .int x5)]) F.1 F.2.1 dX9_match_71 hl (k := 6) rfl (by rw [ev_16]; rfl) (by decide) rfl (fun ls hl => ?_)
  refine lv_goto (tgt := 30) F.1 F.2.1 dX9_match_74 (by decide) ?_
  exact Kb _ _ _ _ _ _ _ _ _ _  hW hS (lv_sub hl [1, 2, 3, 4, 5, 6, 0] rfl) h
set_option maxHeartbeats 4000000 in
set_option maxRecDepth 100000 in
theorem w_X9_match_30 {p : Program} {l : Launch} {e : Env} {s : State} {m : MethodId} {args : Array Value} {below : List Frame} {meth : Method} {c : Code} {G : GT} {A : Nat → Prop} (F : CallFix p m c cX9_match 7 s args wsX9_match RX9) (hr : meth.sig.returnType = (some .int)) (hlk : meth.locks = false) (hK : va_K G.1 vwCl (tyl G) s) (out : Int32 × St) : ∀ n : Nat, ∀ (S : St) (x1 : Int32) (x2 : Int32) (x3 : Int32) (x4 : Int32) (x5 : Int32) (x6 : Int32) (H : Heap) (locs : List Loc) (ls : Array Slot), Wd shM idsM G A S H → va_S A s.heap H locs → lv_has ls 7 [(0, .ref (G.2.2 0 0)), (1, .int x1), (2, .int x2), (3, .int x3), (4, .int x4), (5, .int x5), (6, .int x6)] → l_X9_match_30 n S x1 x2 x3 x4 x5 x6 = some out → W p l e rm_X9_match s m args below meth c H locs 0 0 (MQ below (QI shM idsM G A out) args s 0 0 A) (F0 m 30 ls []) := by
  intro n
  induction n with
  | zero =>
    intro S x1 x2 x3 x4 x5 x6 H locs ls hW hS hl h
    cases h
  | succ n Kb =>
    generalize hkb : l_X9_match_30 n = kb at Kb
    intro S x1 x2 x3 x4 x5 x6 H locs ls hW hS hl h
    rw [show l_X9_match_30 (n + 1) = b_X9_match_30 (l_X9_match_30 n) from rfl, hkb] at h
    unfold b_X9_match_30 at h
    refine lv_iload F.1 F.2.1 dX9_match_30 (lv_at hl 6 rfl) ?_
    refine lv_iconst (v := 1) F.1 F.2.1 dX9_match_32 (by decide) ?_
    refine lv_aload_n F.1 F.2.1 dX9_match_33 rfl (lv_at hl 0 rfl) ?_
    refine rw_get (q0 := 0) F hK hW idM_0 rfl rfl in_X9_match_X9 27 (by decide) lk_X9_match_68 rfl dX9_match_34 ?_
    refine lv_iload_n F.1 F.2.1 dX9_match_37 rfl (lv_at hl 1 rfl) ?_
    obtain ⟨b_9, h⟩ := gd_some h
    refine rw_iald (q0 := 20) F hK hW idM_20 (fun _ => rfl) (ix_in b_9) dX9_match_38 ?_
    refine lv_topi (fun v_10 ev_10 => ?_)
    have h := lt_n ev_10 h
    refine lv_ishl F.1 F.2.1 dX9_match_39 ?_
    refine lv_icmp_ge (tgt := 77) F.1 F.2.1 dX9_match_40 (by decide) (fun c_11 => ?_) (fun c_11 => ?_)
    · have h := (if_pos c_11).symm.trans h
      refine lv_bipush (v := -4) F.1 F.2.1 dX9_match_77 (by decide) ?_
      exact rw_ret F hr hlk hK hW hS h dX9_match_79
    · have h := (if_neg c_11).symm.trans h
      refine lv_aload_n F.1 F.2.1 dX9_match_43 rfl (lv_at hl 0 rfl) ?_
      refine lv_iload_n F.1 F.2.1 dX9_match_44 rfl (lv_at hl 1 rfl) ?_
      refine lv_iload_n F.1 F.2.1 dX9_match_45 rfl (lv_at hl 2 rfl) ?_
      refine lv_iload F.1 F.2.1 dX9_match_46 (lv_at hl 6 rfl) ?_
      obtain ⟨r_13, S_14, hq_12, h⟩ := bi_some h
      refine rw_vi F hK hW hS [.int x1, .int x2, .int x6] (rest := []) (c_X9_fits l G A x1 x2 x6 S (r_13, S_14) hq_12) (cwV 3 F.2.2.2.2 gX9_match_X9_fits rfl rfl rfl (by decide +kernel) ⟨Nat.le_of_ble_eq_true rfl, Nat.le_of_ble_eq_true rfl⟩) (rw_recv (q0 := 0) hK hW idM_0 rfl rfl) rfl hl.1 rfl (Nat.le_of_ble_eq_true rfl) dX9_match_48 (fun H locs hW hS => ?_)
      refine lv_if_eq (tgt := 71) F.1 F.2.1 dX9_match_51 (by decide) (fun c_15 => ?_) (fun c_15 => ?_)
      · have h := (if_pos c_15).symm.trans h
        exact w_X9_match_71 F hr hlk hK out kb Kb _ _ _ _ _ _ _ _ _ _  hW hS hl h
      · have h := (if_neg c_15).symm.trans h
        refine lv_iload F.1 F.2.1 dX9_match_54 (lv_at hl 5 rfl) ?_
        refine lv_iload_n F.1 F.2.1 dX9_match_56 rfl (lv_at hl 3 rfl) ?_
        refine lv_icmp_ne (tgt := 68) F.1 F.2.1 dX9_match_57 (by decide) (fun c_17 => ?_) (fun c_17 => ?_)
        · have h := (if_neg c_17).symm.trans h
          obtain ⟨v_18, ev_18⟩ : ∃ y : Int32, y = x5 + 1 := ⟨_, rfl⟩
          have h := lt_n ev_18 h
          refine lv_iinc (v := v_18) (lv' := [(5, .int v_18), (0, .ref (G.2.2 0 0)), (1, .int x1), (2, .int x2), (3, .int x3), (4, .int x4), (6, .int x6)]) F.1 F.2.1 dX9_match_68 hl (k := 5) rfl (by rw [ev_18]; rfl) (by decide) rfl (fun ls hl => ?_)
          exact w_X9_match_71 F hr hlk hK out kb Kb _ _ _ _ _ _ _ _ _ _  hW hS (lv_sub hl [1, 2, 3, 4, 5, 0, 6] rfl) h
        · have h := (if_pos c_17).symm.trans h
          refine lv_aload_n F.1 F.2.1 dX9_match_60 rfl (lv_at hl 0 rfl) ?_
          refine rw_get (q0 := 0) F hK hW idM_0 rfl rfl in_X9_match_X9 39 (by decide) lk_X9_match_95 rfl dX9_match_61 ?_
          refine lv_iload F.1 F.2.1 dX9_match_64 (lv_at hl 4 rfl) ?_
          obtain ⟨b_19, h⟩ := gd_some h
          refine rw_iald (q0 := 29) F hK hW idM_29 (fun _ => rfl) (ix_in b_19) dX9_match_66 ?_
          refine lv_topi (fun v_20 ev_20 => ?_)
          have h := lt_n ev_20 h
          exact rw_ret F hr hlk hK hW hS h dX9_match_67
set_option maxHeartbeats 4000000 in
set_option maxRecDepth 100000 in
theorem c_X9_match (l : Launch) (G : GT) (A : Nat → Prop) (a0 : Int32) (a1 : Int32) (a2 : Int32) (a3 : Int32) (S : St) (out : Int32 × St) (h : f_X9_match a0 a1 a2 a3 S = some out) : Met l yX9_match wsX9_match rm_X9_match (va_Pc [.ref (G.2.2 0 0), .int a0, .int a1, .int a2, .int a3] (WD shM idsM G A S)) (QI shM idsM G A out) 0 0 A := by
  refine Met.ofW (cc := cX9_match) (maxL := 7) (ret := (some .int)) (by decide) rfl ?_
  intro p e s m args below meth c s₁ B hml hv
  obtain ⟨rfl, hW, hK⟩ := hv
  have F : CallFix p m c cX9_match 7 s _ wsX9_match RX9 := ⟨B.exec, B.bytes, hml, findClass_of_methodNamed B.named, atoms_spec (ws := wsX9_match) B.pre⟩
  have hr := B.returns
  have hlk := B.notSynchronized
  have hS : va_S A s.heap s.heap [] := va_S.rf
  have hl := lv_entry ([.ref (G.2.2 0 0), .int a0, .int a1, .int a2, .int a3]) (n := 7) (Nat.le_of_ble_eq_true rfl)
  rw [lg_entry_eq]
  generalize (lg_sl ([.ref (G.2.2 0 0), .int a0, .int a1, .int a2, .int a3]) ++ List.replicate (7 - (lg_sl ([.ref (G.2.2 0 0), .int a0, .int a1, .int a2, .int a3])).length) Slot.unset).toArray = ls at hl ⊢
  have hl : lv_has ls 7 [(0, .ref (G.2.2 0 0)), (1, .int a0), (2, .int a1), (3, .int a2), (4, .int a3)] := hl
  unfold f_X9_match at h
  refine lv_aload_n F.1 F.2.1 dX9_match_0 rfl (lv_at hl 0 rfl) ?_
  refine lv_iload_n F.1 F.2.1 dX9_match_1 rfl (lv_at hl 1 rfl) ?_
  refine lv_iload_n F.1 F.2.1 dX9_match_2 rfl (lv_at hl 2 rfl) ?_
  obtain ⟨r_2, S_3, hq_1, h⟩ := bi_some h
  refine rw_vi F hK hW hS [.int a0, .int a1] (rest := []) (c_X9_canMatch l G A a0 a1 S (r_2, S_3) hq_1) (cwV 2 F.2.2.2.2 gX9_match_X9_canMatch rfl rfl rfl (by decide +kernel) ⟨Nat.le_of_ble_eq_true rfl, Nat.le_of_ble_eq_true rfl⟩) (rw_recv (q0 := 0) hK hW idM_0 rfl rfl) rfl hl.1 rfl (Nat.le_of_ble_eq_true rfl) dX9_match_3 (fun H locs hW hS => ?_)
  refine lv_if_eq (tgt := 22) F.1 F.2.1 dX9_match_6 (by decide) (fun c_4 => ?_) (fun c_4 => ?_)
  · have h := (if_pos c_4).symm.trans h
    exact w_X9_match_22 F hr hlk hK out  _ _ _ _  hW hS (lv_sub hl [] rfl) h
  · have h := (if_neg c_4).symm.trans h
    refine lv_iload F.1 F.2.1 dX9_match_9 (lv_at hl 4 rfl) ?_
    refine lv_i2l (v := a3.toInt64) F.1 F.2.1 dX9_match_11 rfl ?_
    refine lv_lconst (v := 0) F.1 F.2.1 dX9_match_12 (by decide) ?_
    refine lv_ldc2 (v := 5) F.1 F.2.1 F.2.2.2.1 (F.2.2.2.2 _ lk_X9_match_184) dX9_match_13 ?_
    obtain ⟨r_6, S_7, hq_5, h⟩ := bi_some h
    refine rw_si F hK hW hS [.long a3.toInt64, .long 0, .long 5] (rest := []) (c_X9_in l G A a3.toInt64 0 5 S_3 (r_6, S_7) hq_5) (va_cwS 3 F.2.2.2.2 gX9_match_X9_in rfl rfl rfl (by decide +kernel) ⟨Nat.le_of_ble_eq_true rfl, Nat.le_of_ble_eq_true rfl⟩) rfl hl.1 rfl (Nat.le_of_ble_eq_true rfl) dX9_match_16 (fun H locs hW hS => ?_)
    refine lv_if_ne (tgt := 24) F.1 F.2.1 dX9_match_19 (by decide) (fun c_8 => ?_) (fun c_8 => ?_)
    · have h := (if_neg c_8).symm.trans h
      refine lv_iconst (v := 0) F.1 F.2.1 dX9_match_24 (by decide) ?_
      refine lv_istore (lv' := [(5, .int 0), (0, .ref (G.2.2 0 0)), (1, .int a0), (2, .int a1), (3, .int a2), (4, .int a3)]) F.1 F.2.1 dX9_match_25 hl (by decide) rfl (fun ls hl => ?_)
      refine lv_iconst (v := 0) F.1 F.2.1 dX9_match_27 (by decide) ?_
      refine lv_istore (lv' := [(6, .int 0), (5, .int 0), (0, .ref (G.2.2 0 0)), (1, .int a0), (2, .int a1), (3, .int a2), (4, .int a3)]) F.1 F.2.1 dX9_match_28 hl (by decide) rfl (fun ls hl => ?_)
      refine w_X9_match_30 F hr hlk hK out   5000 _ _ _ _ _ _ _ _ _ _  hW hS (lv_sub hl [2, 3, 4, 5, 6, 1, 0] rfl) h
    · have h := (if_pos c_8).symm.trans h
      exact w_X9_match_22 F hr hlk hK out  _ _ _ _  hW hS (lv_sub hl [] rfl) h
