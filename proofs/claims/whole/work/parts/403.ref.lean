/-! CellCoverModel.tree(I)V -/
abbrev rm_X9_tree : Room := { frames := 2, cells := 0, slots := 0, locals := 41 }
theorem in_X9_tree_X9 : ∀ w ∈ wsX90, w ∈ wsX9_tree := by decide +kernel
theorem lk_X9_tree_86 : Cond.fieldLink RX9 86 "CellCoverModel" "wants" "[I" ∈ wsX9_tree := by decide +kernel
theorem lk_X9_tree_68 : Cond.fieldLink RX9 68 "CellCoverModel" "nands" "[I" ∈ wsX9_tree := by decide +kernel
theorem lk_X9_tree_71 : Cond.fieldLink RX9 71 "CellCoverModel" "pinsOf" "[I" ∈ wsX9_tree := by decide +kernel
theorem lk_X9_tree_196 : Cond.fieldLink RX9 196 "CellCoverModel" "fault" "I" ∈ wsX9_tree := by decide +kernel
theorem lk_X9_tree_202 : Cond.fieldLink RX9 202 "CellCoverModel" "at" "I" ∈ wsX9_tree := by decide +kernel
theorem lk_X9_tree_218 : Cond.constantLong RX9 218 97 ∈ wsX9_tree := by decide +kernel
theorem lk_X9_tree_220 : Cond.constantLong RX9 220 102 ∈ wsX9_tree := by decide +kernel
theorem lk_X9_tree_74 : Cond.fieldLink RX9 74 "CellCoverModel" "sign" "[I" ∈ wsX9_tree := by decide +kernel
theorem lk_X9_tree_77 : Cond.fieldLink RX9 77 "CellCoverModel" "letter" "[I" ∈ wsX9_tree := by decide +kernel
theorem lk_X9_tree_89 : Cond.fieldLink RX9 89 "CellCoverModel" "wantsRight" "[Z" ∈ wsX9_tree := by decide +kernel
theorem lk_X9_tree_80 : Cond.fieldLink RX9 80 "CellCoverModel" "left" "[I" ∈ wsX9_tree := by decide +kernel
theorem lk_X9_tree_83 : Cond.fieldLink RX9 83 "CellCoverModel" "right" "[I" ∈ wsX9_tree := by decide +kernel
theorem lk_X9_tree_65 : Cond.fieldLink RX9 65 "CellCoverModel" "size" "[I" ∈ wsX9_tree := by decide +kernel
theorem lk_X9_tree_191 : Cond.fieldLink RX9 191 "CellCoverModel" "taped" "I" ∈ wsX9_tree := by decide +kernel
set_option maxHeartbeats 4000000 in
set_option maxRecDepth 100000 in
theorem w_X9_tree_325 {p : Program} {l : Launch} {e : Env} {s : State} {m : MethodId} {args : Array Value} {below : List Frame} {meth : Method} {c : Code} {G : GT} {A : Nat → Prop} (F : CallFix p m c cX9_tree 8 s args wsX9_tree RX9) (hr : meth.sig.returnType = none) (hlk : meth.locks = false) (hK : va_K G.1 vwCl (tyl G) s) (out : St) (kb : St → Int32 → Int32 → Int32 → Int32 → Option (St)) (k328 : St → Int32 → Int32 → Option (St)) (Kb : ∀ (S : St) (x1 : Int32) (x2 : Int32) (x3 : Int32) (x4 : Int32) (H : Heap) (locs : List Loc) (ls : Array Slot), Wd shM idsM G A S H → va_S A s.heap H locs → lv_has ls 8 [(0, .ref (G.2.2 0 0)), (1, .int x1), (2, .int x2), (3, .int x3), (4, .int x4)] → kb S x1 x2 x3 x4 = some out → W p l e rm_X9_tree s m args below meth c H locs 0 0 (MQ below (QV shM idsM G A out) args s 0 0 A) (F0 m 31 ls [])) (K328 : ∀ (S : St) (x1 : Int32) (x3 : Int32) (H : Heap) (locs : List Loc) (ls : Array Slot), Wd shM idsM G A S H → va_S A s.heap H locs → lv_has ls 8 [(0, .ref (G.2.2 0 0)), (1, .int x1), (3, .int x3)] → k328 S x1 x3 = some out → W p l e rm_X9_tree s m args below meth c H locs 0 0 (MQ below (QV shM idsM G A out) args s 0 0 A) (F0 m 328 ls [])) : ∀ (S : St) (x1 : Int32) (x2 : Int32) (x3 : Int32) (x4 : Int32) (H : Heap) (locs : List Loc) (ls : Array Slot), Wd shM idsM G A S H → va_S A s.heap H locs → lv_has ls 8 [(0, .ref (G.2.2 0 0)), (1, .int x1), (2, .int x2), (3, .int x3), (4, .int x4)] → j_X9_tree_325 kb k328 S x1 x2 x3 x4 = some out → W p l e rm_X9_tree s m args below meth c H locs 0 0 (MQ below (QV shM idsM G A out) args s 0 0 A) (F0 m 325 ls []) := by
  intro S x1 x2 x3 x4 H locs ls hW hS hl h
  unfold j_X9_tree_325 at h
  refine lv_goto (tgt := 31) F.1 F.2.1 dX9_tree_325 (by decide) ?_
  exact Kb _ _ _ _ _ _ _ _  hW hS hl h
set_option maxHeartbeats 4000000 in
set_option maxRecDepth 100000 in
theorem w_X9_tree_312 {p : Program} {l : Launch} {e : Env} {s : State} {m : MethodId} {args : Array Value} {below : List Frame} {meth : Method} {c : Code} {G : GT} {A : Nat → Prop} (F : CallFix p m c cX9_tree 8 s args wsX9_tree RX9) (hr : meth.sig.returnType = none) (hlk : meth.locks = false) (hK : va_K G.1 vwCl (tyl G) s) (out : St) (kb : St → Int32 → Int32 → Int32 → Int32 → Option (St)) (k328 : St → Int32 → Int32 → Option (St)) (Kb : ∀ (S : St) (x1 : Int32) (x2 : Int32) (x3 : Int32) (x4 : Int32) (H : Heap) (locs : List Loc) (ls : Array Slot), Wd shM idsM G A S H → va_S A s.heap H locs → lv_has ls 8 [(0, .ref (G.2.2 0 0)), (1, .int x1), (2, .int x2), (3, .int x3), (4, .int x4)] → kb S x1 x2 x3 x4 = some out → W p l e rm_X9_tree s m args below meth c H locs 0 0 (MQ below (QV shM idsM G A out) args s 0 0 A) (F0 m 31 ls [])) (K328 : ∀ (S : St) (x1 : Int32) (x3 : Int32) (H : Heap) (locs : List Loc) (ls : Array Slot), Wd shM idsM G A S H → va_S A s.heap H locs → lv_has ls 8 [(0, .ref (G.2.2 0 0)), (1, .int x1), (3, .int x3)] → k328 S x1 x3 = some out → W p l e rm_X9_tree s m args below meth c H locs 0 0 (MQ below (QV shM idsM G A out) args s 0 0 A) (F0 m 328 ls [])) : ∀ (S : St) (x1 : Int32) (x2 : Int32) (x3 : Int32) (x4 : Int32) (H : Heap) (locs : List Loc) (ls : Array Slot), Wd shM idsM G A S H → va_S A s.heap H locs → lv_has ls 8 [(0, .ref (G.2.2 0 0)), (1, .int x1), (2, .int x2), (3, .int x3), (4, .int x4)] → j_X9_tree_312 kb k328 S x1 x2 x3 x4 = some out → W p l e rm_X9_tree s m args below meth c H locs 0 0 (MQ below (QV shM idsM G A out) args s 0 0 A) (F0 m 312 ls []) := by
  intro S x1 x2 x3 x4 H locs ls hW hS hl h
  unfold j_X9_tree_312 at h
  obtain ⟨v_38, ev_38⟩ : ∃ y : Int32, y = x3 + 1 := ⟨_, rfl⟩
  have h := lt_n ev_38 h
  refine lv_iinc (v := v_38) (lv' := [(3, .int v_38), (0, .ref (G.2.2 0 0)), (1, .int x1), (2, .int x2), (4, .int x4)]) F.1 F.2.1 dX9_tree_312 hl (k := 3) rfl (by rw [ev_38]; rfl) (by decide) rfl (fun ls hl => ?_)
  refine lv_aload_n F.1 F.2.1 dX9_tree_315 rfl (lv_at hl 1 rfl) ?_
  refine lv_dup F.1 F.2.1 dX9_tree_316 rfl ?_
  refine rw_get (q0 := 0) F hK hW idM_0 rfl rfl in_X9_tree_X9 33 (by decide) lk_X9_tree_202 rfl dX9_tree_317 ?_
  refine lv_iconst (v := 1) F.1 F.2.1 dX9_tree_320 (by decide) ?_
  refine lv_iadd F.1 F.2.1 dX9_tree_321 ?_
  refine rw_put ndM (q0 := 0) (x := (S 0 0 33) + 1) F hK hW hS idM_0 rfl rfl in_X9_tree_X9 tyX9 tyX9_ok nmX9 33 (by decide) lk_X9_tree_202 rfl (ty := .int) (by decide +kernel) rfl rfl (Nat.le_of_ble_eq_true rfl) rfl dX9_tree_322 (fun H locs S_39 eS_39 hW hS => ?_)
  have h := lt_n eS_39 h
  exact w_X9_tree_325 F hr hlk hK out kb k328 Kb K328 _ _ _ _ _ _ _ _  hW hS (lv_sub hl [1, 2, 3, 0, 4] rfl) h
set_option maxHeartbeats 4000000 in
set_option maxRecDepth 100000 in
theorem w_X9_tree_288 {p : Program} {l : Launch} {e : Env} {s : State} {m : MethodId} {args : Array Value} {below : List Frame} {meth : Method} {c : Code} {G : GT} {A : Nat → Prop} (F : CallFix p m c cX9_tree 8 s args wsX9_tree RX9) (hr : meth.sig.returnType = none) (hlk : meth.locks = false) (hK : va_K G.1 vwCl (tyl G) s) (out : St) (kb : St → Int32 → Int32 → Int32 → Int32 → Option (St)) (k328 : St → Int32 → Int32 → Option (St)) (Kb : ∀ (S : St) (x1 : Int32) (x2 : Int32) (x3 : Int32) (x4 : Int32) (H : Heap) (locs : List Loc) (ls : Array Slot), Wd shM idsM G A S H → va_S A s.heap H locs → lv_has ls 8 [(0, .ref (G.2.2 0 0)), (1, .int x1), (2, .int x2), (3, .int x3), (4, .int x4)] → kb S x1 x2 x3 x4 = some out → W p l e rm_X9_tree s m args below meth c H locs 0 0 (MQ below (QV shM idsM G A out) args s 0 0 A) (F0 m 31 ls [])) (K328 : ∀ (S : St) (x1 : Int32) (x3 : Int32) (H : Heap) (locs : List Loc) (ls : Array Slot), Wd shM idsM G A S H → va_S A s.heap H locs → lv_has ls 8 [(0, .ref (G.2.2 0 0)), (1, .int x1), (3, .int x3)] → k328 S x1 x3 = some out → W p l e rm_X9_tree s m args below meth c H locs 0 0 (MQ below (QV shM idsM G A out) args s 0 0 A) (F0 m 328 ls [])) : ∀ (S : St) (x1 : Int32) (x2 : Int32) (x3 : Int32) (x4 : Int32) (x6 : Int32) (H : Heap) (locs : List Loc) (ls : Array Slot), Wd shM idsM G A S H → va_S A s.heap H locs → lv_has ls 8 [(0, .ref (G.2.2 0 0)), (1, .int x1), (2, .int x2), (3, .int x3), (4, .int x4), (6, .int x6)] → j_X9_tree_288 kb k328 S x1 x2 x3 x4 x6 = some out → W p l e rm_X9_tree s m args below meth c H locs 0 0 (MQ below (QV shM idsM G A out) args s 0 0 A) (F0 m 288 ls []) := by
  intro S x1 x2 x3 x4 x6 H locs ls hW hS hl h
  unfold j_X9_tree_288 at h
  refine lv_iload F.1 F.2.1 dX9_tree_288 (lv_at hl 5 rfl) ?_
  refine lv_if_ne (tgt := 312) F.1 F.2.1 dX9_tree_290 (by decide) (fun c_37 => ?_) (fun c_37 => ?_)
  · have h := (if_neg c_37).symm.trans h
    exact w_X9_tree_312 F hr hlk hK out kb k328 Kb K328 _ _ _ _ _ _ _ _  hW hS (lv_sub hl [0, 1, 2, 3, 4] rfl) h
  · have h := (if_pos c_37).symm.trans h
    refine lv_aload_n F.1 F.2.1 dX9_tree_293 rfl (lv_at hl 0 rfl) ?_
    refine rw_get (q0 := 0) F hK hW idM_0 rfl rfl in_X9_tree_X9 36 (by decide) lk_X9_tree_86 rfl dX9_tree_294 ?_
    refine lv_iload F.1 F.2.1 dX9_tree_297 (lv_at hl 4 rfl) ?_
    refine lv_iload_n F.1 F.2.1 dX9_tree_299 rfl (lv_at hl 3 rfl) ?_
    obtain ⟨b_40, h⟩ := gd_some h
    refine rw_iast ndM (q0 := 26) F hK hW hS idM_26 (fun _ => rfl) (ix_in b_40) dX9_tree_300 (fun H locs S_41 eS_41 hW hS => ?_)
    have h := lt_n eS_41 h
    refine lv_aload_n F.1 F.2.1 dX9_tree_301 rfl (lv_at hl 0 rfl) ?_
    refine rw_get (q0 := 0) F hK hW idM_0 rfl rfl in_X9_tree_X9 37 (by decide) lk_X9_tree_89 rfl dX9_tree_302 ?_
    refine lv_iload F.1 F.2.1 dX9_tree_305 (lv_at hl 4 rfl) ?_
    refine lv_iconst (v := 0) F.1 F.2.1 dX9_tree_307 (by decide) ?_
    obtain ⟨b_42, h⟩ := gd_some h
    refine rw_zast ndM (q0 := 27) F hK hW hS idM_27 (fun _ => rfl) (ix_in b_42) dX9_tree_308 (fun H locs S_43 eS_43 hW hS => ?_)
    have h := lt_n eS_43 h
    obtain ⟨v_44, ev_44⟩ : ∃ y : Int32, y = x4 + 1 := ⟨_, rfl⟩
    have h := lt_n ev_44 h
    refine lv_iinc (v := v_44) (lv' := [(4, .int v_44), (0, .ref (G.2.2 0 0)), (1, .int x1), (2, .int x2), (3, .int x3), (6, .int x6)]) F.1 F.2.1 dX9_tree_309 hl (k := 4) rfl (by rw [ev_44]; rfl) (by decide) rfl (fun ls hl => ?_)
    exact w_X9_tree_312 F hr hlk hK out kb k328 Kb K328 _ _ _ _ _ _ _ _  hW hS (lv_sub hl [1, 2, 3, 4, 0] rfl) h
set_option maxHeartbeats 4000000 in
set_option maxRecDepth 100000 in
theorem w_X9_tree_250 {p : Program} {l : Launch} {e : Env} {s : State} {m : MethodId} {args : Array Value} {below : List Frame} {meth : Method} {c : Code} {G : GT} {A : Nat → Prop} (F : CallFix p m c cX9_tree 8 s args wsX9_tree RX9) (hr : meth.sig.returnType = none) (hlk : meth.locks = false) (hK : va_K G.1 vwCl (tyl G) s) (out : St) (kb : St → Int32 → Int32 → Int32 → Int32 → Option (St)) (k328 : St → Int32 → Int32 → Option (St)) (Kb : ∀ (S : St) (x1 : Int32) (x2 : Int32) (x3 : Int32) (x4 : Int32) (H : Heap) (locs : List Loc) (ls : Array Slot), Wd shM idsM G A S H → va_S A s.heap H locs → lv_has ls 8 [(0, .ref (G.2.2 0 0)), (1, .int x1), (2, .int x2), (3, .int x3), (4, .int x4)] → kb S x1 x2 x3 x4 = some out → W p l e rm_X9_tree s m args below meth c H locs 0 0 (MQ below (QV shM idsM G A out) args s 0 0 A) (F0 m 31 ls [])) (K328 : ∀ (S : St) (x1 : Int32) (x3 : Int32) (H : Heap) (locs : List Loc) (ls : Array Slot), Wd shM idsM G A S H → va_S A s.heap H locs → lv_has ls 8 [(0, .ref (G.2.2 0 0)), (1, .int x1), (3, .int x3)] → k328 S x1 x3 = some out → W p l e rm_X9_tree s m args below meth c H locs 0 0 (MQ below (QV shM idsM G A out) args s 0 0 A) (F0 m 328 ls [])) : ∀ (S : St) (x1 : Int32) (x2 : Int32) (x3 : Int32) (x4 : Int32) (x5 : Int32) (x6 : Int32) (y1 : Int32) (y2 : Int32) (y3 : Int32) (H : Heap) (locs : List Loc) (ls : Array Slot), Wd shM idsM G A S H → va_S A s.heap H locs → lv_has ls 8 [(0, .ref (G.2.2 0 0)), (1, .int x1), (2, .int x2), (3, .int x3), (4, .int x4), (5, .int x5), (6, .int x6)] → j_X9_tree_250 kb k328 S x1 x2 x3 x4 x5 x6 y1 y2 y3 = some out → W p l e rm_X9_tree s m args below meth c H locs 0 0 (MQ below (QV shM idsM G A out) args s 0 0 A) (F0 m 250 ls [.int y3, .int y2, .int y1, .ref (G.2.2 21 0)]) := by
  intro S x1 x2 x3 x4 x5 x6 y1 y2 y3 H locs ls hW hS hl h
  unfold j_X9_tree_250 at h
  refine lv_ior F.1 F.2.1 dX9_tree_250 ?_
  obtain ⟨b_34, h⟩ := gd_some h
  refine rw_iast ndM (q0 := 21) F hK hW hS idM_21 (fun _ => rfl) (ix_in b_34) dX9_tree_251 (fun H locs S_35 eS_35 hW hS => ?_)
  have h := lt_n eS_35 h
  refine lv_iload F.1 F.2.1 dX9_tree_252 (lv_at hl 5 rfl) ?_
  refine lv_bipush (v := 78) F.1 F.2.1 dX9_tree_254 (by decide) ?_
  refine lv_icmp_ne (tgt := 288) F.1 F.2.1 dX9_tree_256 (by decide) (fun c_36 => ?_) (fun c_36 => ?_)
  · have h := (if_neg c_36).symm.trans h
    exact w_X9_tree_288 F hr hlk hK out kb k328 Kb K328 _ _ _ _ _ _ _ _ _  hW hS (lv_sub hl [0, 1, 2, 3, 4, 6] rfl) h
  · have h := (if_pos c_36).symm.trans h
    refine lv_aload_n F.1 F.2.1 dX9_tree_259 rfl (lv_at hl 0 rfl) ?_
    refine rw_get (q0 := 0) F hK hW idM_0 rfl rfl in_X9_tree_X9 27 (by decide) lk_X9_tree_68 rfl dX9_tree_260 ?_
    refine lv_iload_n F.1 F.2.1 dX9_tree_263 rfl (lv_at hl 1 rfl) ?_
    refine lv_dup2_11 F.1 F.2.1 dX9_tree_264 rfl rfl ?_
    obtain ⟨b_45, h⟩ := gd_some h
    refine rw_iald (q0 := 20) F hK hW idM_20 (fun _ => rfl) (ix_in b_45) dX9_tree_265 ?_
    refine lv_topi (fun v_46 ev_46 => ?_)
    have h := lt_n ev_46 h
    refine lv_iconst (v := 1) F.1 F.2.1 dX9_tree_266 (by decide) ?_
    refine lv_iadd F.1 F.2.1 dX9_tree_267 ?_
    obtain ⟨b_47, h⟩ := gd_some h
    refine rw_iast ndM (q0 := 20) F hK hW hS idM_20 (fun _ => rfl) (ix_in b_47) dX9_tree_268 (fun H locs S_48 eS_48 hW hS => ?_)
    have h := lt_n eS_48 h
    refine lv_aload_n F.1 F.2.1 dX9_tree_269 rfl (lv_at hl 0 rfl) ?_
    refine rw_get (q0 := 0) F hK hW idM_0 rfl rfl in_X9_tree_X9 36 (by decide) lk_X9_tree_86 rfl dX9_tree_270 ?_
    refine lv_iload F.1 F.2.1 dX9_tree_273 (lv_at hl 4 rfl) ?_
    refine lv_iload_n F.1 F.2.1 dX9_tree_275 rfl (lv_at hl 3 rfl) ?_
    obtain ⟨b_49, h⟩ := gd_some h
    refine rw_iast ndM (q0 := 26) F hK hW hS idM_26 (fun _ => rfl) (ix_in b_49) dX9_tree_276 (fun H locs S_50 eS_50 hW hS => ?_)
    have h := lt_n eS_50 h
    refine lv_aload_n F.1 F.2.1 dX9_tree_277 rfl (lv_at hl 0 rfl) ?_
    refine rw_get (q0 := 0) F hK hW idM_0 rfl rfl in_X9_tree_X9 37 (by decide) lk_X9_tree_89 rfl dX9_tree_278 ?_
    refine lv_iload F.1 F.2.1 dX9_tree_281 (lv_at hl 4 rfl) ?_
    refine lv_iconst (v := 1) F.1 F.2.1 dX9_tree_283 (by decide) ?_
    obtain ⟨b_51, h⟩ := gd_some h
    refine rw_zast ndM (q0 := 27) F hK hW hS idM_27 (fun _ => rfl) (ix_in b_51) dX9_tree_284 (fun H locs S_52 eS_52 hW hS => ?_)
    have h := lt_n eS_52 h
    obtain ⟨v_53, ev_53⟩ : ∃ y : Int32, y = x4 + 1 := ⟨_, rfl⟩
    have h := lt_n ev_53 h
    refine lv_iinc (v := v_53) (lv' := [(4, .int v_53), (0, .ref (G.2.2 0 0)), (1, .int x1), (2, .int x2), (3, .int x3), (5, .int x5), (6, .int x6)]) F.1 F.2.1 dX9_tree_285 hl (k := 4) rfl (by rw [ev_53]; rfl) (by decide) rfl (fun ls hl => ?_)
    exact w_X9_tree_288 F hr hlk hK out kb k328 Kb K328 _ _ _ _ _ _ _ _ _  hW hS (lv_sub hl [1, 2, 3, 4, 0, 6] rfl) h
set_option maxHeartbeats 4000000 in
set_option maxRecDepth 100000 in
theorem w_X9_tree_226 {p : Program} {l : Launch} {e : Env} {s : State} {m : MethodId} {args : Array Value} {below : List Frame} {meth : Method} {c : Code} {G : GT} {A : Nat → Prop} (F : CallFix p m c cX9_tree 8 s args wsX9_tree RX9) (hr : meth.sig.returnType = none) (hlk : meth.locks = false) (hK : va_K G.1 vwCl (tyl G) s) (out : St) (kb : St → Int32 → Int32 → Int32 → Int32 → Option (St)) (k328 : St → Int32 → Int32 → Option (St)) (Kb : ∀ (S : St) (x1 : Int32) (x2 : Int32) (x3 : Int32) (x4 : Int32) (H : Heap) (locs : List Loc) (ls : Array Slot), Wd shM idsM G A S H → va_S A s.heap H locs → lv_has ls 8 [(0, .ref (G.2.2 0 0)), (1, .int x1), (2, .int x2), (3, .int x3), (4, .int x4)] → kb S x1 x2 x3 x4 = some out → W p l e rm_X9_tree s m args below meth c H locs 0 0 (MQ below (QV shM idsM G A out) args s 0 0 A) (F0 m 31 ls [])) (K328 : ∀ (S : St) (x1 : Int32) (x3 : Int32) (H : Heap) (locs : List Loc) (ls : Array Slot), Wd shM idsM G A S H → va_S A s.heap H locs → lv_has ls 8 [(0, .ref (G.2.2 0 0)), (1, .int x1), (3, .int x3)] → k328 S x1 x3 = some out → W p l e rm_X9_tree s m args below meth c H locs 0 0 (MQ below (QV shM idsM G A out) args s 0 0 A) (F0 m 328 ls [])) : ∀ (S : St) (x1 : Int32) (x2 : Int32) (x3 : Int32) (x4 : Int32) (x5 : Int32) (x6 : Int32) (y1 : Int32) (y2 : Int32) (H : Heap) (locs : List Loc) (ls : Array Slot), Wd shM idsM G A S H → va_S A s.heap H locs → lv_has ls 8 [(0, .ref (G.2.2 0 0)), (1, .int x1), (2, .int x2), (3, .int x3), (4, .int x4), (5, .int x5), (6, .int x6)] → j_X9_tree_226 kb k328 S x1 x2 x3 x4 x5 x6 y1 y2 = some out → W p l e rm_X9_tree s m args below meth c H locs 0 0 (MQ below (QV shM idsM G A out) args s 0 0 A) (F0 m 226 ls [.int y2, .int y1, .ref (G.2.2 23 0)]) := by
  intro S x1 x2 x3 x4 x5 x6 y1 y2 H locs ls hW hS hl h
  unfold j_X9_tree_226 at h
  obtain ⟨b_29, h⟩ := gd_some h
  refine rw_iast ndM (q0 := 23) F hK hW hS idM_23 (fun _ => rfl) (ix_in b_29) dX9_tree_226 (fun H locs S_30 eS_30 hW hS => ?_)
  have h := lt_n eS_30 h
  refine lv_aload_n F.1 F.2.1 dX9_tree_227 rfl (lv_at hl 0 rfl) ?_
  refine rw_get (q0 := 0) F hK hW idM_0 rfl rfl in_X9_tree_X9 28 (by decide) lk_X9_tree_71 rfl dX9_tree_228 ?_
  refine lv_iload_n F.1 F.2.1 dX9_tree_231 rfl (lv_at hl 1 rfl) ?_
  refine lv_dup2_11 F.1 F.2.1 dX9_tree_232 rfl rfl ?_
  obtain ⟨b_31, h⟩ := gd_some h
  refine rw_iald (q0 := 21) F hK hW idM_21 (fun _ => rfl) (ix_in b_31) dX9_tree_233 ?_
  refine lv_topi (fun v_32 ev_32 => ?_)
  have h := lt_n ev_32 h
  refine lv_iload F.1 F.2.1 dX9_tree_234 (lv_at hl 6 rfl) ?_
  refine lv_if_eq (tgt := 249) F.1 F.2.1 dX9_tree_236 (by decide) (fun c_33 => ?_) (fun c_33 => ?_)
  · have h := (if_pos c_33).symm.trans h
    refine lv_iconst (v := 0) F.1 F.2.1 dX9_tree_249 (by decide) ?_
    exact w_X9_tree_250 F hr hlk hK out kb k328 Kb K328 _ _ _ _ _ _ _ _ _ _ _ _ _  hW hS hl h
  · have h := (if_neg c_33).symm.trans h
    refine lv_iconst (v := 1) F.1 F.2.1 dX9_tree_239 (by decide) ?_
    refine lv_iload F.1 F.2.1 dX9_tree_240 (lv_at hl 5 rfl) ?_
    refine lv_bipush (v := 97) F.1 F.2.1 dX9_tree_242 (by decide) ?_
    refine lv_isub F.1 F.2.1 dX9_tree_244 ?_
    refine lv_ishl F.1 F.2.1 dX9_tree_245 ?_
    refine lv_goto (tgt := 250) F.1 F.2.1 dX9_tree_246 (by decide) ?_
    exact w_X9_tree_250 F hr hlk hK out kb k328 Kb K328 _ _ _ _ _ _ _ _ _ _ _ _ _  hW hS hl h
set_option maxHeartbeats 4000000 in
set_option maxRecDepth 100000 in
theorem w_X9_tree_204 {p : Program} {l : Launch} {e : Env} {s : State} {m : MethodId} {args : Array Value} {below : List Frame} {meth : Method} {c : Code} {G : GT} {A : Nat → Prop} (F : CallFix p m c cX9_tree 8 s args wsX9_tree RX9) (hr : meth.sig.returnType = none) (hlk : meth.locks = false) (hK : va_K G.1 vwCl (tyl G) s) (out : St) (kb : St → Int32 → Int32 → Int32 → Int32 → Option (St)) (k328 : St → Int32 → Int32 → Option (St)) (Kb : ∀ (S : St) (x1 : Int32) (x2 : Int32) (x3 : Int32) (x4 : Int32) (H : Heap) (locs : List Loc) (ls : Array Slot), Wd shM idsM G A S H → va_S A s.heap H locs → lv_has ls 8 [(0, .ref (G.2.2 0 0)), (1, .int x1), (2, .int x2), (3, .int x3), (4, .int x4)] → kb S x1 x2 x3 x4 = some out → W p l e rm_X9_tree s m args below meth c H locs 0 0 (MQ below (QV shM idsM G A out) args s 0 0 A) (F0 m 31 ls [])) (K328 : ∀ (S : St) (x1 : Int32) (x3 : Int32) (H : Heap) (locs : List Loc) (ls : Array Slot), Wd shM idsM G A S H → va_S A s.heap H locs → lv_has ls 8 [(0, .ref (G.2.2 0 0)), (1, .int x1), (3, .int x3)] → k328 S x1 x3 = some out → W p l e rm_X9_tree s m args below meth c H locs 0 0 (MQ below (QV shM idsM G A out) args s 0 0 A) (F0 m 328 ls [])) : ∀ (S : St) (x1 : Int32) (x2 : Int32) (x3 : Int32) (x4 : Int32) (x5 : Int32) (x6 : Int32) (y1 : Int32) (y2 : Int32) (H : Heap) (locs : List Loc) (ls : Array Slot), Wd shM idsM G A S H → va_S A s.heap H locs → lv_has ls 8 [(0, .ref (G.2.2 0 0)), (1, .int x1), (2, .int x2), (3, .int x3), (4, .int x4), (5, .int x5), (6, .int x6)] → j_X9_tree_204 kb k328 S x1 x2 x3 x4 x5 x6 y1 y2 = some out → W p l e rm_X9_tree s m args below meth c H locs 0 0 (MQ below (QV shM idsM G A out) args s 0 0 A) (F0 m 204 ls [.int y2, .int y1, .ref (G.2.2 22 0)]) := by
  intro S x1 x2 x3 x4 x5 x6 y1 y2 H locs ls hW hS hl h
  unfold j_X9_tree_204 at h
  obtain ⟨b_26, h⟩ := gd_some h
  refine rw_iast ndM (q0 := 22) F hK hW hS idM_22 (fun _ => rfl) (ix_in b_26) dX9_tree_204 (fun H locs S_27 eS_27 hW hS => ?_)
  have h := lt_n eS_27 h
  refine lv_aload_n F.1 F.2.1 dX9_tree_205 rfl (lv_at hl 0 rfl) ?_
  refine rw_get (q0 := 0) F hK hW idM_0 rfl rfl in_X9_tree_X9 30 (by decide) lk_X9_tree_77 rfl dX9_tree_206 ?_
  refine lv_iload_n F.1 F.2.1 dX9_tree_209 rfl (lv_at hl 2 rfl) ?_
  refine lv_iload_n F.1 F.2.1 dX9_tree_210 rfl (lv_at hl 3 rfl) ?_
  refine lv_iadd F.1 F.2.1 dX9_tree_211 ?_
  refine lv_iload F.1 F.2.1 dX9_tree_212 (lv_at hl 6 rfl) ?_
  refine lv_if_eq (tgt := 225) F.1 F.2.1 dX9_tree_214 (by decide) (fun c_28 => ?_) (fun c_28 => ?_)
  · have h := (if_pos c_28).symm.trans h
    refine lv_iconst (v := 0) F.1 F.2.1 dX9_tree_225 (by decide) ?_
    exact w_X9_tree_226 F hr hlk hK out kb k328 Kb K328 _ _ _ _ _ _ _ _ _ _ _ _  hW hS hl h
  · have h := (if_neg c_28).symm.trans h
    refine lv_iload F.1 F.2.1 dX9_tree_217 (lv_at hl 5 rfl) ?_
    refine lv_bipush (v := 97) F.1 F.2.1 dX9_tree_219 (by decide) ?_
    refine lv_isub F.1 F.2.1 dX9_tree_221 ?_
    refine lv_goto (tgt := 226) F.1 F.2.1 dX9_tree_222 (by decide) ?_
    exact w_X9_tree_226 F hr hlk hK out kb k328 Kb K328 _ _ _ _ _ _ _ _ _ _ _ _  hW hS hl h
set_option maxHeartbeats 4000000 in
set_option maxRecDepth 100000 in
theorem w_X9_tree_174 {p : Program} {l : Launch} {e : Env} {s : State} {m : MethodId} {args : Array Value} {below : List Frame} {meth : Method} {c : Code} {G : GT} {A : Nat → Prop} (F : CallFix p m c cX9_tree 8 s args wsX9_tree RX9) (hr : meth.sig.returnType = none) (hlk : meth.locks = false) (hK : va_K G.1 vwCl (tyl G) s) (out : St) (kb : St → Int32 → Int32 → Int32 → Int32 → Option (St)) (k328 : St → Int32 → Int32 → Option (St)) (Kb : ∀ (S : St) (x1 : Int32) (x2 : Int32) (x3 : Int32) (x4 : Int32) (H : Heap) (locs : List Loc) (ls : Array Slot), Wd shM idsM G A S H → va_S A s.heap H locs → lv_has ls 8 [(0, .ref (G.2.2 0 0)), (1, .int x1), (2, .int x2), (3, .int x3), (4, .int x4)] → kb S x1 x2 x3 x4 = some out → W p l e rm_X9_tree s m args below meth c H locs 0 0 (MQ below (QV shM idsM G A out) args s 0 0 A) (F0 m 31 ls [])) (K328 : ∀ (S : St) (x1 : Int32) (x3 : Int32) (H : Heap) (locs : List Loc) (ls : Array Slot), Wd shM idsM G A S H → va_S A s.heap H locs → lv_has ls 8 [(0, .ref (G.2.2 0 0)), (1, .int x1), (3, .int x3)] → k328 S x1 x3 = some out → W p l e rm_X9_tree s m args below meth c H locs 0 0 (MQ below (QV shM idsM G A out) args s 0 0 A) (F0 m 328 ls [])) : ∀ (S : St) (x1 : Int32) (x2 : Int32) (x3 : Int32) (x4 : Int32) (x5 : Int32) (x6 : Int32) (H : Heap) (locs : List Loc) (ls : Array Slot), Wd shM idsM G A S H → va_S A s.heap H locs → lv_has ls 8 [(0, .ref (G.2.2 0 0)), (1, .int x1), (2, .int x2), (3, .int x3), (4, .int x4), (5, .int x5), (6, .int x6)] → j_X9_tree_174 kb k328 S x1 x2 x3 x4 x5 x6 = some out → W p l e rm_X9_tree s m args below meth c H locs 0 0 (MQ below (QV shM idsM G A out) args s 0 0 A) (F0 m 174 ls []) := by
  intro S x1 x2 x3 x4 x5 x6 H locs ls hW hS hl h
  unfold j_X9_tree_174 at h
  refine lv_aload_n F.1 F.2.1 dX9_tree_174 rfl (lv_at hl 0 rfl) ?_
  refine rw_get (q0 := 0) F hK hW idM_0 rfl rfl in_X9_tree_X9 29 (by decide) lk_X9_tree_74 rfl dX9_tree_175 ?_
  refine lv_iload_n F.1 F.2.1 dX9_tree_178 rfl (lv_at hl 2 rfl) ?_
  refine lv_iload_n F.1 F.2.1 dX9_tree_179 rfl (lv_at hl 3 rfl) ?_
  refine lv_iadd F.1 F.2.1 dX9_tree_180 ?_
  refine lv_iload F.1 F.2.1 dX9_tree_181 (lv_at hl 5 rfl) ?_
  refine lv_bipush (v := 78) F.1 F.2.1 dX9_tree_183 (by decide) ?_
  refine lv_icmp_ne (tgt := 192) F.1 F.2.1 dX9_tree_185 (by decide) (fun c_24 => ?_) (fun c_24 => ?_)
  · have h := (if_neg c_24).symm.trans h
    refine lv_iload F.1 F.2.1 dX9_tree_192 (lv_at hl 5 rfl) ?_
    refine lv_bipush (v := 73) F.1 F.2.1 dX9_tree_194 (by decide) ?_
    refine lv_icmp_ne (tgt := 203) F.1 F.2.1 dX9_tree_196 (by decide) (fun c_25 => ?_) (fun c_25 => ?_)
    · have h := (if_neg c_25).symm.trans h
      refine lv_iconst (v := 3) F.1 F.2.1 dX9_tree_203 (by decide) ?_
      exact w_X9_tree_204 F hr hlk hK out kb k328 Kb K328 _ _ _ _ _ _ _ _ _ _ _ _  hW hS hl h
    · have h := (if_pos c_25).symm.trans h
      refine lv_iconst (v := 1) F.1 F.2.1 dX9_tree_199 (by decide) ?_
      refine lv_goto (tgt := 204) F.1 F.2.1 dX9_tree_200 (by decide) ?_
      exact w_X9_tree_204 F hr hlk hK out kb k328 Kb K328 _ _ _ _ _ _ _ _ _ _ _ _  hW hS hl h
  · have h := (if_pos c_24).symm.trans h
    refine lv_iconst (v := 2) F.1 F.2.1 dX9_tree_188 (by decide) ?_
    refine lv_goto (tgt := 204) F.1 F.2.1 dX9_tree_189 (by decide) ?_
    exact w_X9_tree_204 F hr hlk hK out kb k328 Kb K328 _ _ _ _ _ _ _ _ _ _ _ _  hW hS hl h
set_option maxHeartbeats 4000000 in
set_option maxRecDepth 100000 in
theorem w_X9_tree_106 {p : Program} {l : Launch} {e : Env} {s : State} {m : MethodId} {args : Array Value} {below : List Frame} {meth : Method} {c : Code} {G : GT} {A : Nat → Prop} (F : CallFix p m c cX9_tree 8 s args wsX9_tree RX9) (hr : meth.sig.returnType = none) (hlk : meth.locks = false) (hK : va_K G.1 vwCl (tyl G) s) (out : St) (kb : St → Int32 → Int32 → Int32 → Int32 → Option (St)) (k328 : St → Int32 → Int32 → Option (St)) (Kb : ∀ (S : St) (x1 : Int32) (x2 : Int32) (x3 : Int32) (x4 : Int32) (H : Heap) (locs : List Loc) (ls : Array Slot), Wd shM idsM G A S H → va_S A s.heap H locs → lv_has ls 8 [(0, .ref (G.2.2 0 0)), (1, .int x1), (2, .int x2), (3, .int x3), (4, .int x4)] → kb S x1 x2 x3 x4 = some out → W p l e rm_X9_tree s m args below meth c H locs 0 0 (MQ below (QV shM idsM G A out) args s 0 0 A) (F0 m 31 ls [])) (K328 : ∀ (S : St) (x1 : Int32) (x3 : Int32) (H : Heap) (locs : List Loc) (ls : Array Slot), Wd shM idsM G A S H → va_S A s.heap H locs → lv_has ls 8 [(0, .ref (G.2.2 0 0)), (1, .int x1), (3, .int x3)] → k328 S x1 x3 = some out → W p l e rm_X9_tree s m args below meth c H locs 0 0 (MQ below (QV shM idsM G A out) args s 0 0 A) (F0 m 328 ls [])) : ∀ (S : St) (x1 : Int32) (x2 : Int32) (x3 : Int32) (x4 : Int32) (x5 : Int32) (x6 : Int32) (H : Heap) (locs : List Loc) (ls : Array Slot), Wd shM idsM G A S H → va_S A s.heap H locs → lv_has ls 8 [(0, .ref (G.2.2 0 0)), (1, .int x1), (2, .int x2), (3, .int x3), (4, .int x4), (5, .int x5), (6, .int x6)] → j_X9_tree_106 kb k328 S x1 x2 x3 x4 x5 x6 = some out → W p l e rm_X9_tree s m args below meth c H locs 0 0 (MQ below (QV shM idsM G A out) args s 0 0 A) (F0 m 106 ls []) := by
  intro S x1 x2 x3 x4 x5 x6 H locs ls hW hS hl h
  unfold j_X9_tree_106 at h
  refine lv_iload_n F.1 F.2.1 dX9_tree_106 rfl (lv_at hl 3 rfl) ?_
  refine lv_bipush (v := 12) F.1 F.2.1 dX9_tree_107 (by decide) ?_
  refine lv_icmp_ne (tgt := 124) F.1 F.2.1 dX9_tree_109 (by decide) (fun c_19 => ?_) (fun c_19 => ?_)
  · have h := (if_neg c_19).symm.trans h
    obtain ⟨v_20, ev_20⟩ : ∃ y : Int32, y = x4 + (-1) := ⟨_, rfl⟩
    have h := lt_n ev_20 h
    refine lv_iinc (v := v_20) (lv' := [(4, .int v_20), (0, .ref (G.2.2 0 0)), (1, .int x1), (2, .int x2), (3, .int x3), (5, .int x5), (6, .int x6)]) F.1 F.2.1 dX9_tree_124 hl (k := 4) rfl (by rw [ev_20]; rfl) (by decide) rfl (fun ls hl => ?_)
    refine lv_aload_n F.1 F.2.1 dX9_tree_127 rfl (lv_at hl 1 rfl) ?_
    refine rw_get (q0 := 0) F hK hW idM_0 rfl rfl in_X9_tree_X9 36 (by decide) lk_X9_tree_86 rfl dX9_tree_128 ?_
    refine lv_iload F.1 F.2.1 dX9_tree_131 (lv_at hl 0 rfl) ?_
    obtain ⟨b_21, h⟩ := gd_some h
    refine rw_iald (q0 := 26) F hK hW idM_26 (fun _ => rfl) (ix_in b_21) dX9_tree_133 ?_
    refine lv_topi (fun v_22 ev_22 => ?_)
    have h := lt_n ev_22 h
    refine lv_istore (lv' := [(7, .int v_22), (4, .int v_20), (0, .ref (G.2.2 0 0)), (1, .int x1), (2, .int x2), (3, .int x3), (5, .int x5), (6, .int x6)]) F.1 F.2.1 dX9_tree_134 hl (by decide) rfl (fun ls hl => ?_)
    refine lv_iload F.1 F.2.1 dX9_tree_136 (lv_at hl 0 rfl) ?_
    refine lv_if_lt (tgt := 174) F.1 F.2.1 dX9_tree_138 (by decide) (fun c_23 => ?_) (fun c_23 => ?_)
    · have h := (if_pos c_23).symm.trans h
      exact w_X9_tree_174 F hr hlk hK out kb k328 Kb K328 _ _ _ _ _ _ _ _ _ _  hW hS (lv_sub hl [2, 3, 4, 5, 1, 6, 7] rfl) h
    · have h := (if_neg c_23).symm.trans h
      refine lv_aload_n F.1 F.2.1 dX9_tree_141 rfl (lv_at hl 2 rfl) ?_
      refine rw_get (q0 := 0) F hK hW idM_0 rfl rfl in_X9_tree_X9 37 (by decide) lk_X9_tree_89 rfl dX9_tree_142 ?_
      refine lv_iload F.1 F.2.1 dX9_tree_145 (lv_at hl 1 rfl) ?_
      obtain ⟨b_54, h⟩ := gd_some h
      refine rw_zald (q0 := 27) F hK hW idM_27 (fun _ => rfl) (ix_in b_54) dX9_tree_147 ?_
      refine lv_topi (fun v_55 ev_55 => ?_)
      have h := lt_n ev_55 h
      refine lv_if_eq (tgt := 164) F.1 F.2.1 dX9_tree_148 (by decide) (fun c_56 => ?_) (fun c_56 => ?_)
      · have h := (if_pos c_56).symm.trans h
        refine lv_aload_n F.1 F.2.1 dX9_tree_164 rfl (lv_at hl 2 rfl) ?_
        refine rw_get (q0 := 0) F hK hW idM_0 rfl rfl in_X9_tree_X9 31 (by decide) lk_X9_tree_80 rfl dX9_tree_165 ?_
        refine lv_iload_n F.1 F.2.1 dX9_tree_168 rfl (lv_at hl 4 rfl) ?_
        refine lv_iload F.1 F.2.1 dX9_tree_169 (lv_at hl 0 rfl) ?_
        refine lv_iadd F.1 F.2.1 dX9_tree_171 ?_
        refine lv_iload_n F.1 F.2.1 dX9_tree_172 rfl (lv_at hl 5 rfl) ?_
        obtain ⟨b_57, h⟩ := gd_some h
        refine rw_iast ndM (q0 := 24) F hK hW hS idM_24 (fun _ => rfl) (ix_in b_57) dX9_tree_173 (fun H locs S_58 eS_58 hW hS => ?_)
        have h := lt_n eS_58 h
        exact w_X9_tree_174 F hr hlk hK out kb k328 Kb K328 _ _ _ _ _ _ _ _ _ _  hW hS (lv_sub hl [2, 3, 4, 5, 1, 6, 7] rfl) h
      · have h := (if_neg c_56).symm.trans h
        refine lv_aload_n F.1 F.2.1 dX9_tree_151 rfl (lv_at hl 2 rfl) ?_
        refine rw_get (q0 := 0) F hK hW idM_0 rfl rfl in_X9_tree_X9 32 (by decide) lk_X9_tree_83 rfl dX9_tree_152 ?_
        refine lv_iload_n F.1 F.2.1 dX9_tree_155 rfl (lv_at hl 4 rfl) ?_
        refine lv_iload F.1 F.2.1 dX9_tree_156 (lv_at hl 0 rfl) ?_
        refine lv_iadd F.1 F.2.1 dX9_tree_158 ?_
        refine lv_iload_n F.1 F.2.1 dX9_tree_159 rfl (lv_at hl 5 rfl) ?_
        obtain ⟨b_59, h⟩ := gd_some h
        refine rw_iast ndM (q0 := 25) F hK hW hS idM_25 (fun _ => rfl) (ix_in b_59) dX9_tree_160 (fun H locs S_60 eS_60 hW hS => ?_)
        have h := lt_n eS_60 h
        refine lv_goto (tgt := 174) F.1 F.2.1 dX9_tree_161 (by decide) ?_
        exact w_X9_tree_174 F hr hlk hK out kb k328 Kb K328 _ _ _ _ _ _ _ _ _ _  hW hS (lv_sub hl [2, 3, 4, 5, 1, 6, 7] rfl) h
  · have h := (if_pos c_19).symm.trans h
    refine lv_aload_n F.1 F.2.1 dX9_tree_112 rfl (lv_at hl 0 rfl) ?_
    refine lv_iconst (v := 3) F.1 F.2.1 dX9_tree_113 (by decide) ?_
    refine lv_aload_n F.1 F.2.1 dX9_tree_114 rfl (lv_at hl 0 rfl) ?_
    refine rw_get (q0 := 0) F hK hW idM_0 rfl rfl in_X9_tree_X9 33 (by decide) lk_X9_tree_202 rfl dX9_tree_115 ?_
    obtain ⟨q_61, hq_61, h⟩ := bv_some h
    refine rw_vv F hK hW hS [.int 3, .int (S 0 0 33)] (rest := []) (c_X9_wrong l G A 3 (S 0 0 33) S q_61 hq_61) (cwV 2 F.2.2.2.2 gX9_tree_X9_wrong rfl rfl rfl (by decide +kernel) ⟨Nat.le_of_ble_eq_true rfl, Nat.le_of_ble_eq_true rfl⟩) (rw_recv (q0 := 0) hK hW idM_0 rfl rfl) rfl hl.1 rfl (Nat.le_of_ble_eq_true rfl) dX9_tree_118 (fun H locs hW hS => ?_)
    refine lv_goto (tgt := 325) F.1 F.2.1 dX9_tree_121 (by decide) ?_
    exact w_X9_tree_325 F hr hlk hK out kb k328 Kb K328 _ _ _ _ _ _ _ _  hW hS (lv_sub hl [0, 1, 2, 3, 4] rfl) h
set_option maxHeartbeats 4000000 in
set_option maxRecDepth 100000 in
theorem w_X9_tree_94 {p : Program} {l : Launch} {e : Env} {s : State} {m : MethodId} {args : Array Value} {below : List Frame} {meth : Method} {c : Code} {G : GT} {A : Nat → Prop} (F : CallFix p m c cX9_tree 8 s args wsX9_tree RX9) (hr : meth.sig.returnType = none) (hlk : meth.locks = false) (hK : va_K G.1 vwCl (tyl G) s) (out : St) (kb : St → Int32 → Int32 → Int32 → Int32 → Option (St)) (k328 : St → Int32 → Int32 → Option (St)) (Kb : ∀ (S : St) (x1 : Int32) (x2 : Int32) (x3 : Int32) (x4 : Int32) (H : Heap) (locs : List Loc) (ls : Array Slot), Wd shM idsM G A S H → va_S A s.heap H locs → lv_has ls 8 [(0, .ref (G.2.2 0 0)), (1, .int x1), (2, .int x2), (3, .int x3), (4, .int x4)] → kb S x1 x2 x3 x4 = some out → W p l e rm_X9_tree s m args below meth c H locs 0 0 (MQ below (QV shM idsM G A out) args s 0 0 A) (F0 m 31 ls [])) (K328 : ∀ (S : St) (x1 : Int32) (x3 : Int32) (H : Heap) (locs : List Loc) (ls : Array Slot), Wd shM idsM G A S H → va_S A s.heap H locs → lv_has ls 8 [(0, .ref (G.2.2 0 0)), (1, .int x1), (3, .int x3)] → k328 S x1 x3 = some out → W p l e rm_X9_tree s m args below meth c H locs 0 0 (MQ below (QV shM idsM G A out) args s 0 0 A) (F0 m 328 ls [])) : ∀ (S : St) (x1 : Int32) (x2 : Int32) (x3 : Int32) (x4 : Int32) (H : Heap) (locs : List Loc) (ls : Array Slot), Wd shM idsM G A S H → va_S A s.heap H locs → lv_has ls 8 [(0, .ref (G.2.2 0 0)), (1, .int x1), (2, .int x2), (3, .int x3), (4, .int x4)] → j_X9_tree_94 kb k328 S x1 x2 x3 x4 = some out → W p l e rm_X9_tree s m args below meth c H locs 0 0 (MQ below (QV shM idsM G A out) args s 0 0 A) (F0 m 94 ls []) := by
  intro S x1 x2 x3 x4 H locs ls hW hS hl h
  unfold j_X9_tree_94 at h
  refine lv_aload_n F.1 F.2.1 dX9_tree_94 rfl (lv_at hl 0 rfl) ?_
  refine lv_iconst (v := 1) F.1 F.2.1 dX9_tree_95 (by decide) ?_
  refine lv_aload_n F.1 F.2.1 dX9_tree_96 rfl (lv_at hl 0 rfl) ?_
  refine rw_get (q0 := 0) F hK hW idM_0 rfl rfl in_X9_tree_X9 33 (by decide) lk_X9_tree_202 rfl dX9_tree_97 ?_
  obtain ⟨q_65, hq_65, h⟩ := bv_some h
  refine rw_vv F hK hW hS [.int 1, .int (S 0 0 33)] (rest := []) (c_X9_wrong l G A 1 (S 0 0 33) S q_65 hq_65) (cwV 2 F.2.2.2.2 gX9_tree_X9_wrong rfl rfl rfl (by decide +kernel) ⟨Nat.le_of_ble_eq_true rfl, Nat.le_of_ble_eq_true rfl⟩) (rw_recv (q0 := 0) hK hW idM_0 rfl rfl) rfl hl.1 rfl (Nat.le_of_ble_eq_true rfl) dX9_tree_100 (fun H locs hW hS => ?_)
  refine lv_goto (tgt := 325) F.1 F.2.1 dX9_tree_103 (by decide) ?_
  exact w_X9_tree_325 F hr hlk hK out kb k328 Kb K328 _ _ _ _ _ _ _ _  hW hS hl h
set_option maxHeartbeats 4000000 in
set_option maxRecDepth 100000 in
theorem w_X9_tree_31 {p : Program} {l : Launch} {e : Env} {s : State} {m : MethodId} {args : Array Value} {below : List Frame} {meth : Method} {c : Code} {G : GT} {A : Nat → Prop} (F : CallFix p m c cX9_tree 8 s args wsX9_tree RX9) (hr : meth.sig.returnType = none) (hlk : meth.locks = false) (hK : va_K G.1 vwCl (tyl G) s) (out : St) (k328 : St → Int32 → Int32 → Option (St)) (K328 : ∀ (S : St) (x1 : Int32) (x3 : Int32) (H : Heap) (locs : List Loc) (ls : Array Slot), Wd shM idsM G A S H → va_S A s.heap H locs → lv_has ls 8 [(0, .ref (G.2.2 0 0)), (1, .int x1), (3, .int x3)] → k328 S x1 x3 = some out → W p l e rm_X9_tree s m args below meth c H locs 0 0 (MQ below (QV shM idsM G A out) args s 0 0 A) (F0 m 328 ls [])) : ∀ n : Nat, ∀ (S : St) (x1 : Int32) (x2 : Int32) (x3 : Int32) (x4 : Int32) (H : Heap) (locs : List Loc) (ls : Array Slot), Wd shM idsM G A S H → va_S A s.heap H locs → lv_has ls 8 [(0, .ref (G.2.2 0 0)), (1, .int x1), (2, .int x2), (3, .int x3), (4, .int x4)] → l_X9_tree_31 k328 n S x1 x2 x3 x4 = some out → W p l e rm_X9_tree s m args below meth c H locs 0 0 (MQ below (QV shM idsM G A out) args s 0 0 A) (F0 m 31 ls []) := by
  intro n
  induction n with
  | zero =>
    intro S x1 x2 x3 x4 H locs ls hW hS hl h
    cases h
  | succ n Kb =>
    generalize hkb : l_X9_tree_31 k328 n = kb at Kb
    intro S x1 x2 x3 x4 H locs ls hW hS hl h
    rw [show l_X9_tree_31 k328 (n + 1) = b_X9_tree_31 (l_X9_tree_31 k328 n) k328 from rfl, hkb] at h
    unfold b_X9_tree_31 at h
    refine lv_iload F.1 F.2.1 dX9_tree_31 (lv_at hl 4 rfl) ?_
    refine lv_if_le (tgt := 328) F.1 F.2.1 dX9_tree_33 (by decide) (fun c_8 => ?_) (fun c_8 => ?_)
    · have h := (if_pos c_8).symm.trans h
      exact K328 _ _ _ _ _ _  hW hS (lv_sub hl [0, 1, 3] rfl) h
    · have h := (if_neg c_8).symm.trans h
      refine lv_aload_n F.1 F.2.1 dX9_tree_36 rfl (lv_at hl 0 rfl) ?_
      refine rw_get (q0 := 0) F hK hW idM_0 rfl rfl in_X9_tree_X9 34 (by decide) lk_X9_tree_196 rfl dX9_tree_37 ?_
      refine lv_if_ne (tgt := 328) F.1 F.2.1 dX9_tree_40 (by decide) (fun c_9 => ?_) (fun c_9 => ?_)
      · have h := (if_neg c_9).symm.trans h
        exact K328 _ _ _ _ _ _  hW hS (lv_sub hl [0, 1, 3] rfl) h
      · have h := (if_pos c_9).symm.trans h
        refine lv_aload_n F.1 F.2.1 dX9_tree_43 rfl (lv_at hl 0 rfl) ?_
        obtain ⟨q_10, hq_10, h⟩ := bv_some h
        refine rw_vv F hK hW hS [] (rest := []) (c_X9_blanks l G A  S q_10 hq_10) (cwV 0 F.2.2.2.2 gX9_tree_X9_blanks rfl rfl rfl (by decide +kernel) ⟨Nat.le_of_ble_eq_true rfl, Nat.le_of_ble_eq_true rfl⟩) (rw_recv (q0 := 0) hK hW idM_0 rfl rfl) rfl hl.1 rfl (Nat.le_of_ble_eq_true rfl) dX9_tree_44 (fun H locs hW hS => ?_)
        refine lv_aload_n F.1 F.2.1 dX9_tree_47 rfl (lv_at hl 0 rfl) ?_
        refine lv_aload_n F.1 F.2.1 dX9_tree_48 rfl (lv_at hl 0 rfl) ?_
        refine rw_get (q0 := 0) F hK hW idM_0 rfl rfl in_X9_tree_X9 33 (by decide) lk_X9_tree_202 rfl dX9_tree_49 ?_
        obtain ⟨r_13, S_14, hq_12, h⟩ := bi_some h
        refine rw_vi F hK hW hS [.int (q_10 0 0 33)] (rest := []) (c_X9_byteAt l G A (q_10 0 0 33) q_10 (r_13, S_14) hq_12) (cwV 1 F.2.2.2.2 gX9_tree_X9_byteAt rfl rfl rfl (by decide +kernel) ⟨Nat.le_of_ble_eq_true rfl, Nat.le_of_ble_eq_true rfl⟩) (rw_recv (q0 := 0) hK hW idM_0 rfl rfl) rfl hl.1 rfl (Nat.le_of_ble_eq_true rfl) dX9_tree_52 (fun H locs hW hS => ?_)
        refine lv_istore (lv' := [(5, .int r_13), (0, .ref (G.2.2 0 0)), (1, .int x1), (2, .int x2), (3, .int x3), (4, .int x4)]) F.1 F.2.1 dX9_tree_55 hl (by decide) rfl (fun ls hl => ?_)
        refine lv_iload F.1 F.2.1 dX9_tree_57 (lv_at hl 0 rfl) ?_
        refine lv_i2l (v := r_13.toInt64) F.1 F.2.1 dX9_tree_59 rfl ?_
        refine lv_ldc2 (v := 97) F.1 F.2.1 F.2.2.2.1 (F.2.2.2.2 _ lk_X9_tree_218) dX9_tree_60 ?_
        refine lv_ldc2 (v := 102) F.1 F.2.1 F.2.2.2.1 (F.2.2.2.2 _ lk_X9_tree_220) dX9_tree_63 ?_
        obtain ⟨r_16, S_17, hq_15, h⟩ := bi_some h
        refine rw_si F hK hW hS [.long r_13.toInt64, .long 97, .long 102] (rest := []) (c_X9_in l G A r_13.toInt64 97 102 S_14 (r_16, S_17) hq_15) (va_cwS 3 F.2.2.2.2 gX9_tree_X9_in rfl rfl rfl (by decide +kernel) ⟨Nat.le_of_ble_eq_true rfl, Nat.le_of_ble_eq_true rfl⟩) rfl hl.1 rfl (Nat.le_of_ble_eq_true rfl) dX9_tree_66 (fun H locs hW hS => ?_)
        refine lv_istore (lv' := [(6, .int r_16), (5, .int r_13), (0, .ref (G.2.2 0 0)), (1, .int x1), (2, .int x2), (3, .int x3), (4, .int x4)]) F.1 F.2.1 dX9_tree_69 hl (by decide) rfl (fun ls hl => ?_)
        refine lv_iload F.1 F.2.1 dX9_tree_71 (lv_at hl 1 rfl) ?_
        refine lv_bipush (v := 78) F.1 F.2.1 dX9_tree_73 (by decide) ?_
        refine lv_icmp_eq (tgt := 106) F.1 F.2.1 dX9_tree_75 (by decide) (fun c_18 => ?_) (fun c_18 => ?_)
        · have h := (if_pos c_18).symm.trans h
          exact w_X9_tree_106 F hr hlk hK out kb k328 Kb K328 _ _ _ _ _ _ _ _ _ _  hW hS (lv_sub hl [2, 3, 4, 5, 6, 1, 0] rfl) h
        · have h := (if_neg c_18).symm.trans h
          refine lv_iload F.1 F.2.1 dX9_tree_78 (lv_at hl 1 rfl) ?_
          refine lv_bipush (v := 73) F.1 F.2.1 dX9_tree_80 (by decide) ?_
          refine lv_icmp_eq (tgt := 106) F.1 F.2.1 dX9_tree_82 (by decide) (fun c_63 => ?_) (fun c_63 => ?_)
          · have h := (if_pos c_63).symm.trans h
            exact w_X9_tree_106 F hr hlk hK out kb k328 Kb K328 _ _ _ _ _ _ _ _ _ _  hW hS (lv_sub hl [2, 3, 4, 5, 6, 1, 0] rfl) h
          · have h := (if_neg c_63).symm.trans h
            refine lv_iload F.1 F.2.1 dX9_tree_85 (lv_at hl 0 rfl) ?_
            refine lv_if_eq (tgt := 94) F.1 F.2.1 dX9_tree_87 (by decide) (fun c_64 => ?_) (fun c_64 => ?_)
            · have h := (if_pos c_64).symm.trans h
              exact w_X9_tree_94 F hr hlk hK out kb k328 Kb K328 _ _ _ _ _ _ _ _  hW hS (lv_sub hl [2, 3, 4, 5, 6] rfl) h
            · have h := (if_neg c_64).symm.trans h
              refine lv_iload_n F.1 F.2.1 dX9_tree_90 rfl (lv_at hl 5 rfl) ?_
              refine lv_if_ne (tgt := 106) F.1 F.2.1 dX9_tree_91 (by decide) (fun c_67 => ?_) (fun c_67 => ?_)
              · have h := (if_neg c_67).symm.trans h
                exact w_X9_tree_106 F hr hlk hK out kb k328 Kb K328 _ _ _ _ _ _ _ _ _ _  hW hS (lv_sub hl [2, 3, 4, 5, 6, 1, 0] rfl) h
              · have h := (if_pos c_67).symm.trans h
                exact w_X9_tree_94 F hr hlk hK out kb k328 Kb K328 _ _ _ _ _ _ _ _  hW hS (lv_sub hl [2, 3, 4, 5, 6] rfl) h
set_option maxHeartbeats 4000000 in
set_option maxRecDepth 100000 in
theorem w_X9_tree_359 {p : Program} {l : Launch} {e : Env} {s : State} {m : MethodId} {args : Array Value} {below : List Frame} {meth : Method} {c : Code} {G : GT} {A : Nat → Prop} (F : CallFix p m c cX9_tree 8 s args wsX9_tree RX9) (hr : meth.sig.returnType = none) (hlk : meth.locks = false) (hK : va_K G.1 vwCl (tyl G) s) (out : St) : ∀ (S : St) (H : Heap) (locs : List Loc) (ls : Array Slot), Wd shM idsM G A S H → va_S A s.heap H locs → lv_has ls 8 [] → j_X9_tree_359 S = some out → W p l e rm_X9_tree s m args below meth c H locs 0 0 (MQ below (QV shM idsM G A out) args s 0 0 A) (F0 m 359 ls []) := by
  intro S H locs ls hW hS hl h
  unfold j_X9_tree_359 at h
  exact rw_retv F hr hlk hK hW hS h dX9_tree_359
set_option maxHeartbeats 4000000 in
set_option maxRecDepth 100000 in
theorem w_X9_tree_328 {p : Program} {l : Launch} {e : Env} {s : State} {m : MethodId} {args : Array Value} {below : List Frame} {meth : Method} {c : Code} {G : GT} {A : Nat → Prop} (F : CallFix p m c cX9_tree 8 s args wsX9_tree RX9) (hr : meth.sig.returnType = none) (hlk : meth.locks = false) (hK : va_K G.1 vwCl (tyl G) s) (out : St) : ∀ (S : St) (x1 : Int32) (x3 : Int32) (H : Heap) (locs : List Loc) (ls : Array Slot), Wd shM idsM G A S H → va_S A s.heap H locs → lv_has ls 8 [(0, .ref (G.2.2 0 0)), (1, .int x1), (3, .int x3)] → j_X9_tree_328 S x1 x3 = some out → W p l e rm_X9_tree s m args below meth c H locs 0 0 (MQ below (QV shM idsM G A out) args s 0 0 A) (F0 m 328 ls []) := by
  intro S x1 x3 H locs ls hW hS hl h
  unfold j_X9_tree_328 at h
  refine lv_aload_n F.1 F.2.1 dX9_tree_328 rfl (lv_at hl 0 rfl) ?_
  refine rw_get (q0 := 0) F hK hW idM_0 rfl rfl in_X9_tree_X9 26 (by decide) lk_X9_tree_65 rfl dX9_tree_329 ?_
  refine lv_iload_n F.1 F.2.1 dX9_tree_332 rfl (lv_at hl 1 rfl) ?_
  refine lv_iload_n F.1 F.2.1 dX9_tree_333 rfl (lv_at hl 2 rfl) ?_
  obtain ⟨b_68, h⟩ := gd_some h
  refine rw_iast ndM (q0 := 19) F hK hW hS idM_19 (fun _ => rfl) (ix_in b_68) dX9_tree_334 (fun H locs S_69 eS_69 hW hS => ?_)
  have h := lt_n eS_69 h
  refine lv_aload_n F.1 F.2.1 dX9_tree_335 rfl (lv_at hl 0 rfl) ?_
  obtain ⟨q_70, hq_70, h⟩ := bv_some h
  refine rw_vv F hK hW hS [] (rest := []) (c_X9_blanks l G A  S_69 q_70 hq_70) (cwV 0 F.2.2.2.2 gX9_tree_X9_blanks rfl rfl rfl (by decide +kernel) ⟨Nat.le_of_ble_eq_true rfl, Nat.le_of_ble_eq_true rfl⟩) (rw_recv (q0 := 0) hK hW idM_0 rfl rfl) rfl hl.1 rfl (Nat.le_of_ble_eq_true rfl) dX9_tree_336 (fun H locs hW hS => ?_)
  refine lv_aload_n F.1 F.2.1 dX9_tree_339 rfl (lv_at hl 0 rfl) ?_
  refine rw_get (q0 := 0) F hK hW idM_0 rfl rfl in_X9_tree_X9 33 (by decide) lk_X9_tree_202 rfl dX9_tree_340 ?_
  refine lv_aload_n F.1 F.2.1 dX9_tree_343 rfl (lv_at hl 0 rfl) ?_
  refine rw_get (q0 := 0) F hK hW idM_0 rfl rfl in_X9_tree_X9 20 (by decide) lk_X9_tree_191 rfl dX9_tree_344 ?_
  refine lv_icmp_ge (tgt := 359) F.1 F.2.1 dX9_tree_347 (by decide) (fun c_72 => ?_) (fun c_72 => ?_)
  · have h := (if_pos c_72).symm.trans h
    exact w_X9_tree_359 F hr hlk hK out  _ _ _ _  hW hS (lv_sub hl [] rfl) h
  · have h := (if_neg c_72).symm.trans h
    refine lv_aload_n F.1 F.2.1 dX9_tree_350 rfl (lv_at hl 0 rfl) ?_
    refine lv_iconst (v := 1) F.1 F.2.1 dX9_tree_351 (by decide) ?_
    refine lv_aload_n F.1 F.2.1 dX9_tree_352 rfl (lv_at hl 0 rfl) ?_
    refine rw_get (q0 := 0) F hK hW idM_0 rfl rfl in_X9_tree_X9 33 (by decide) lk_X9_tree_202 rfl dX9_tree_353 ?_
    obtain ⟨q_73, hq_73, h⟩ := bv_some h
    refine rw_vv F hK hW hS [.int 1, .int (q_70 0 0 33)] (rest := []) (c_X9_wrong l G A 1 (q_70 0 0 33) q_70 q_73 hq_73) (cwV 2 F.2.2.2.2 gX9_tree_X9_wrong rfl rfl rfl (by decide +kernel) ⟨Nat.le_of_ble_eq_true rfl, Nat.le_of_ble_eq_true rfl⟩) (rw_recv (q0 := 0) hK hW idM_0 rfl rfl) rfl hl.1 rfl (Nat.le_of_ble_eq_true rfl) dX9_tree_356 (fun H locs hW hS => ?_)
    exact w_X9_tree_359 F hr hlk hK out  _ _ _ _  hW hS (lv_sub hl [] rfl) h
set_option maxHeartbeats 4000000 in
set_option maxRecDepth 100000 in
theorem c_X9_tree (l : Launch) (G : GT) (A : Nat → Prop) (a0 : Int32) (S : St) (out : St) (h : f_X9_tree a0 S = some out) : Met l yX9_tree wsX9_tree rm_X9_tree (va_Pc [.ref (G.2.2 0 0), .int a0] (WD shM idsM G A S)) (QV shM idsM G A out) 0 0 A := by
  refine Met.ofW (cc := cX9_tree) (maxL := 8) (ret := none) (by decide) rfl ?_
  intro p e s m args below meth c s₁ B hml hv
  obtain ⟨rfl, hW, hK⟩ := hv
  have F : CallFix p m c cX9_tree 8 s _ wsX9_tree RX9 := ⟨B.exec, B.bytes, hml, findClass_of_methodNamed B.named, atoms_spec (ws := wsX9_tree) B.pre⟩
  have hr := B.returns
  have hlk := B.notSynchronized
  have hS : va_S A s.heap s.heap [] := va_S.rf
  have hl := lv_entry ([.ref (G.2.2 0 0), .int a0]) (n := 8) (Nat.le_of_ble_eq_true rfl)
  rw [lg_entry_eq]
  generalize (lg_sl ([.ref (G.2.2 0 0), .int a0]) ++ List.replicate (8 - (lg_sl ([.ref (G.2.2 0 0), .int a0])).length) Slot.unset).toArray = ls at hl ⊢
  have hl : lv_has ls 8 [(0, .ref (G.2.2 0 0)), (1, .int a0)] := hl
  unfold f_X9_tree at h
  refine lv_bipush (v := 12) F.1 F.2.1 dX9_tree_0 (by decide) ?_
  refine lv_iload_n F.1 F.2.1 dX9_tree_2 rfl (lv_at hl 1 rfl) ?_
  refine lv_imul F.1 F.2.1 dX9_tree_3 ?_
  refine lv_topi (fun v_1 ev_1 => ?_)
  have h := lt_n ev_1 h
  refine lv_istore_n (lv' := [(2, .int v_1), (0, .ref (G.2.2 0 0)), (1, .int a0)]) F.1 F.2.1 dX9_tree_4 rfl hl (by decide) rfl (fun ls hl => ?_)
  refine lv_iconst (v := 0) F.1 F.2.1 dX9_tree_5 (by decide) ?_
  refine lv_istore_n (lv' := [(3, .int 0), (2, .int v_1), (0, .ref (G.2.2 0 0)), (1, .int a0)]) F.1 F.2.1 dX9_tree_6 rfl hl (by decide) rfl (fun ls hl => ?_)
  refine lv_iconst (v := 1) F.1 F.2.1 dX9_tree_7 (by decide) ?_
  refine lv_istore (lv' := [(4, .int 1), (3, .int 0), (2, .int v_1), (0, .ref (G.2.2 0 0)), (1, .int a0)]) F.1 F.2.1 dX9_tree_8 hl (by decide) rfl (fun ls hl => ?_)
  refine lv_aload_n F.1 F.2.1 dX9_tree_10 rfl (lv_at hl 3 rfl) ?_
  refine rw_get (q0 := 0) F hK hW idM_0 rfl rfl in_X9_tree_X9 36 (by decide) lk_X9_tree_86 rfl dX9_tree_11 ?_
  refine lv_iconst (v := 0) F.1 F.2.1 dX9_tree_14 (by decide) ?_
  refine lv_iconst (v := -1) F.1 F.2.1 dX9_tree_15 (by decide) ?_
  obtain ⟨b_2, h⟩ := gd_some h
  refine rw_iast ndM (q0 := 26) F hK hW hS idM_26 (fun _ => rfl) (ix_in b_2) dX9_tree_16 (fun H locs S_3 eS_3 hW hS => ?_)
  have h := lt_n eS_3 h
  refine lv_aload_n F.1 F.2.1 dX9_tree_17 rfl (lv_at hl 3 rfl) ?_
  refine rw_get (q0 := 0) F hK hW idM_0 rfl rfl in_X9_tree_X9 27 (by decide) lk_X9_tree_68 rfl dX9_tree_18 ?_
  refine lv_iload_n F.1 F.2.1 dX9_tree_21 rfl (lv_at hl 4 rfl) ?_
  refine lv_iconst (v := 0) F.1 F.2.1 dX9_tree_22 (by decide) ?_
  obtain ⟨b_4, h⟩ := gd_some h
  refine rw_iast ndM (q0 := 20) F hK hW hS idM_20 (fun _ => rfl) (ix_in b_4) dX9_tree_23 (fun H locs S_5 eS_5 hW hS => ?_)
  have h := lt_n eS_5 h
  refine lv_aload_n F.1 F.2.1 dX9_tree_24 rfl (lv_at hl 3 rfl) ?_
  refine rw_get (q0 := 0) F hK hW idM_0 rfl rfl in_X9_tree_X9 28 (by decide) lk_X9_tree_71 rfl dX9_tree_25 ?_
  refine lv_iload_n F.1 F.2.1 dX9_tree_28 rfl (lv_at hl 4 rfl) ?_
  refine lv_iconst (v := 0) F.1 F.2.1 dX9_tree_29 (by decide) ?_
  obtain ⟨b_6, h⟩ := gd_some h
  refine rw_iast ndM (q0 := 21) F hK hW hS idM_21 (fun _ => rfl) (ix_in b_6) dX9_tree_30 (fun H locs S_7 eS_7 hW hS => ?_)
  have h := lt_n eS_7 h
  refine w_X9_tree_31 F hr hlk hK out _ ?_ 5000 _ _ _ _ _ _ _ _  hW hS (lv_sub hl [3, 4, 2, 1, 0] rfl) h
  · intro S x1 x3 H locs ls hW hS hl h
    exact w_X9_tree_328 F hr hlk hK out  _ _ _ _ _ _  hW hS hl h
/-! CellCoverModel.cell()I -/
abbrev rm_X9_cell : Room := { frames := 3, cells := 0, slots := 0, locals := 68 }
theorem in_X9_cell_X9 : ∀ w ∈ wsX90, w ∈ wsX9_cell := by decide +kernel
theorem lk_X9_cell_222 : Cond.fieldLink RX9 222 "CellCoverModel" "cells" "I" ∈ wsX9_cell := by decide +kernel
theorem lk_X9_cell_202 : Cond.fieldLink RX9 202 "CellCoverModel" "at" "I" ∈ wsX9_cell := by decide +kernel
theorem lk_X9_cell_196 : Cond.fieldLink RX9 196 "CellCoverModel" "fault" "I" ∈ wsX9_cell := by decide +kernel
theorem lk_X9_cell_199 : Cond.fieldLink RX9 199 "CellCoverModel" "faultAt" "I" ∈ wsX9_cell := by decide +kernel
theorem lk_X9_cell_59 : Cond.fieldLink RX9 59 "CellCoverModel" "area" "[I" ∈ wsX9_cell := by decide +kernel
theorem lk_X9_cell_191 : Cond.fieldLink RX9 191 "CellCoverModel" "taped" "I" ∈ wsX9_cell := by decide +kernel
theorem lk_X9_cell_232 : Cond.fieldLink RX9 232 "CellCoverModel" "faultNow" "I" ∈ wsX9_cell := by decide +kernel
theorem lk_X9_cell_56 : Cond.fieldLink RX9 56 "CellCoverModel" "isThere" "[Z" ∈ wsX9_cell := by decide +kernel
theorem lk_X9_cell_62 : Cond.fieldLink RX9 62 "CellCoverModel" "delay" "[I" ∈ wsX9_cell := by decide +kernel
set_option maxHeartbeats 4000000 in
set_option maxRecDepth 100000 in
theorem w_X9_cell_82 {p : Program} {l : Launch} {e : Env} {s : State} {m : MethodId} {args : Array Value} {below : List Frame} {meth : Method} {c : Code} {G : GT} {A : Nat → Prop} (F : CallFix p m c cX9_cell 1 s args wsX9_cell RX9) (hr : meth.sig.returnType = (some .int)) (hlk : meth.locks = false) (hK : va_K G.1 vwCl (tyl G) s) (out : Int32 × St) : ∀ (S : St) (H : Heap) (locs : List Loc) (ls : Array Slot), Wd shM idsM G A S H → va_S A s.heap H locs → lv_has ls 1 [(0, .ref (G.2.2 0 0))] → j_X9_cell_82 S = some out → W p l e rm_X9_cell s m args below meth c H locs 0 0 (MQ below (QI shM idsM G A out) args s 0 0 A) (F0 m 82 ls []) := by
  intro S H locs ls hW hS hl h
  unfold j_X9_cell_82 at h
  refine lv_aload_n F.1 F.2.1 dX9_cell_82 rfl (lv_at hl 0 rfl) ?_
  refine lv_iconst (v := 0) F.1 F.2.1 dX9_cell_83 (by decide) ?_
  refine rw_put ndM (q0 := 0) (x := 0) F hK hW hS idM_0 rfl rfl in_X9_cell_X9 tyX9 tyX9_ok nmX9 20 (by decide) lk_X9_cell_191 rfl (ty := .int) (by decide +kernel) rfl rfl (Nat.le_of_ble_eq_true rfl) rfl dX9_cell_84 (fun H locs S_12 eS_12 hW hS => ?_)
  have h := lt_n eS_12 h
  refine lv_aload_n F.1 F.2.1 dX9_cell_87 rfl (lv_at hl 0 rfl) ?_
  refine lv_aload_n F.1 F.2.1 dX9_cell_88 rfl (lv_at hl 0 rfl) ?_
  refine rw_get (q0 := 0) F hK hW idM_0 rfl rfl in_X9_cell_X9 34 (by decide) lk_X9_cell_196 rfl dX9_cell_89 ?_
  refine rw_put ndM (q0 := 0) (x := S_12 0 0 34) F hK hW hS idM_0 rfl rfl in_X9_cell_X9 tyX9 tyX9_ok nmX9 21 (by decide) lk_X9_cell_232 rfl (ty := .int) (by decide +kernel) rfl rfl (Nat.le_of_ble_eq_true rfl) rfl dX9_cell_92 (fun H locs S_13 eS_13 hW hS => ?_)
  have h := lt_n eS_13 h
  refine lv_aload_n F.1 F.2.1 dX9_cell_95 rfl (lv_at hl 0 rfl) ?_
  refine rw_get (q0 := 0) F hK hW idM_0 rfl rfl in_X9_cell_X9 34 (by decide) lk_X9_cell_196 rfl dX9_cell_96 ?_
  refine lv_if_le (tgt := 110) F.1 F.2.1 dX9_cell_99 (by decide) (fun c_14 => ?_) (fun c_14 => ?_)
  · have h := (if_pos c_14).symm.trans h
    refine lv_aload_n F.1 F.2.1 dX9_cell_110 rfl (lv_at hl 0 rfl) ?_
    refine rw_get (q0 := 0) F hK hW idM_0 rfl rfl in_X9_cell_X9 23 (by decide) lk_X9_cell_56 rfl dX9_cell_111 ?_
    refine lv_aload_n F.1 F.2.1 dX9_cell_114 rfl (lv_at hl 0 rfl) ?_
    refine rw_get (q0 := 0) F hK hW idM_0 rfl rfl in_X9_cell_X9 22 (by decide) lk_X9_cell_222 rfl dX9_cell_115 ?_
    refine lv_iconst (v := 1) F.1 F.2.1 dX9_cell_118 (by decide) ?_
    obtain ⟨b_15, h⟩ := gd_some h
    refine rw_zast ndM (q0 := 16) F hK hW hS idM_16 (fun _ => rfl) (ix_in b_15) dX9_cell_119 (fun H locs S_16 eS_16 hW hS => ?_)
    have h := lt_n eS_16 h
    refine lv_aload_n F.1 F.2.1 dX9_cell_120 rfl (lv_at hl 0 rfl) ?_
    refine lv_dup F.1 F.2.1 dX9_cell_121 rfl ?_
    refine rw_get (q0 := 0) F hK hW idM_0 rfl rfl in_X9_cell_X9 22 (by decide) lk_X9_cell_222 rfl dX9_cell_122 ?_
    refine lv_iconst (v := 1) F.1 F.2.1 dX9_cell_125 (by decide) ?_
    refine lv_iadd F.1 F.2.1 dX9_cell_126 ?_
    refine rw_put ndM (q0 := 0) (x := (S_16 0 0 22) + 1) F hK hW hS idM_0 rfl rfl in_X9_cell_X9 tyX9 tyX9_ok nmX9 22 (by decide) lk_X9_cell_222 rfl (ty := .int) (by decide +kernel) rfl rfl (Nat.le_of_ble_eq_true rfl) rfl dX9_cell_127 (fun H locs S_17 eS_17 hW hS => ?_)
    have h := lt_n eS_17 h
    refine lv_aload_n F.1 F.2.1 dX9_cell_130 rfl (lv_at hl 0 rfl) ?_
    refine lv_iconst (v := 2) F.1 F.2.1 dX9_cell_131 (by decide) ?_
    refine lv_iconst (v := 0) F.1 F.2.1 dX9_cell_132 (by decide) ?_
    obtain ⟨q_18, hq_18, h⟩ := bv_some h
    refine rw_vv F hK hW hS [.int 2, .int 0] (rest := []) (c_X9_did l G A 2 0 S_17 q_18 hq_18) (cwV 2 F.2.2.2.2 gX9_cell_X9_did rfl rfl rfl (by decide +kernel) ⟨Nat.le_of_ble_eq_true rfl, Nat.le_of_ble_eq_true rfl⟩) (rw_recv (q0 := 0) hK hW idM_0 rfl rfl) rfl hl.1 rfl (Nat.le_of_ble_eq_true rfl) dX9_cell_133 (fun H locs hW hS => ?_)
    refine lv_aload_n F.1 F.2.1 dX9_cell_136 rfl (lv_at hl 0 rfl) ?_
    refine rw_get (q0 := 0) F hK hW idM_0 rfl rfl in_X9_cell_X9 22 (by decide) lk_X9_cell_222 rfl dX9_cell_137 ?_
    refine lv_iconst (v := 1) F.1 F.2.1 dX9_cell_140 (by decide) ?_
    refine lv_isub F.1 F.2.1 dX9_cell_141 ?_
    exact rw_ret F hr hlk hK hW hS h dX9_cell_142
  · have h := (if_neg c_14).symm.trans h
    refine lv_bipush (v := -100) F.1 F.2.1 dX9_cell_102 (by decide) ?_
    refine lv_aload_n F.1 F.2.1 dX9_cell_104 rfl (lv_at hl 0 rfl) ?_
    refine rw_get (q0 := 0) F hK hW idM_0 rfl rfl in_X9_cell_X9 35 (by decide) lk_X9_cell_199 rfl dX9_cell_105 ?_
    refine lv_isub F.1 F.2.1 dX9_cell_108 ?_
    exact rw_ret F hr hlk hK hW hS h dX9_cell_109
set_option maxHeartbeats 4000000 in
set_option maxRecDepth 100000 in
theorem w_X9_cell_67 {p : Program} {l : Launch} {e : Env} {s : State} {m : MethodId} {args : Array Value} {below : List Frame} {meth : Method} {c : Code} {G : GT} {A : Nat → Prop} (F : CallFix p m c cX9_cell 1 s args wsX9_cell RX9) (hr : meth.sig.returnType = (some .int)) (hlk : meth.locks = false) (hK : va_K G.1 vwCl (tyl G) s) (out : Int32 × St) : ∀ (S : St) (H : Heap) (locs : List Loc) (ls : Array Slot), Wd shM idsM G A S H → va_S A s.heap H locs → lv_has ls 1 [(0, .ref (G.2.2 0 0))] → j_X9_cell_67 S = some out → W p l e rm_X9_cell s m args below meth c H locs 0 0 (MQ below (QI shM idsM G A out) args s 0 0 A) (F0 m 67 ls []) := by
  intro S H locs ls hW hS hl h
  unfold j_X9_cell_67 at h
  refine lv_aload_n F.1 F.2.1 dX9_cell_67 rfl (lv_at hl 0 rfl) ?_
  refine rw_get (q0 := 0) F hK hW idM_0 rfl rfl in_X9_cell_X9 34 (by decide) lk_X9_cell_196 rfl dX9_cell_68 ?_
  refine lv_if_ne (tgt := 82) F.1 F.2.1 dX9_cell_71 (by decide) (fun c_11 => ?_) (fun c_11 => ?_)
  · have h := (if_neg c_11).symm.trans h
    exact w_X9_cell_82 F hr hlk hK out  _ _ _ _  hW hS hl h
  · have h := (if_pos c_11).symm.trans h
    refine lv_aload_n F.1 F.2.1 dX9_cell_74 rfl (lv_at hl 0 rfl) ?_
    refine lv_aload_n F.1 F.2.1 dX9_cell_75 rfl (lv_at hl 0 rfl) ?_
    refine rw_get (q0 := 0) F hK hW idM_0 rfl rfl in_X9_cell_X9 22 (by decide) lk_X9_cell_222 rfl dX9_cell_76 ?_
    obtain ⟨q_20, hq_20, h⟩ := bv_some h
    refine rw_vv F hK hW hS [.int (S 0 0 22)] (rest := []) (c_X9_tree l G A (S 0 0 22) S q_20 hq_20) (cwV 1 F.2.2.2.2 gX9_cell_X9_tree rfl rfl rfl (by decide +kernel) ⟨Nat.le_of_ble_eq_true rfl, Nat.le_of_ble_eq_true rfl⟩) (rw_recv (q0 := 0) hK hW idM_0 rfl rfl) rfl hl.1 rfl (Nat.le_of_ble_eq_true rfl) dX9_cell_79 (fun H locs hW hS => ?_)
    exact w_X9_cell_82 F hr hlk hK out  _ _ _ _  hW hS hl h
set_option maxHeartbeats 4000000 in
set_option maxRecDepth 100000 in
theorem c_X9_cell (l : Launch) (G : GT) (A : Nat → Prop) (S : St) (out : Int32 × St) (h : f_X9_cell S = some out) : Met l yX9_cell wsX9_cell rm_X9_cell (va_Pc [.ref (G.2.2 0 0)] (WD shM idsM G A S)) (QI shM idsM G A out) 0 0 A := by
  refine Met.ofW (cc := cX9_cell) (maxL := 1) (ret := (some .int)) (by decide) rfl ?_
  intro p e s m args below meth c s₁ B hml hv
  obtain ⟨rfl, hW, hK⟩ := hv
  have F : CallFix p m c cX9_cell 1 s _ wsX9_cell RX9 := ⟨B.exec, B.bytes, hml, findClass_of_methodNamed B.named, atoms_spec (ws := wsX9_cell) B.pre⟩
  have hr := B.returns
  have hlk := B.notSynchronized
  have hS : va_S A s.heap s.heap [] := va_S.rf
  have hl := lv_entry ([.ref (G.2.2 0 0)]) (n := 1) (Nat.le_of_ble_eq_true rfl)
  rw [lg_entry_eq]
  generalize (lg_sl ([.ref (G.2.2 0 0)]) ++ List.replicate (1 - (lg_sl ([.ref (G.2.2 0 0)])).length) Slot.unset).toArray = ls at hl ⊢
  have hl : lv_has ls 1 [(0, .ref (G.2.2 0 0))] := hl
  unfold f_X9_cell at h
  refine lv_aload_n F.1 F.2.1 dX9_cell_0 rfl (lv_at hl 0 rfl) ?_
  refine rw_get (q0 := 0) F hK hW idM_0 rfl rfl in_X9_cell_X9 22 (by decide) lk_X9_cell_222 rfl dX9_cell_1 ?_
  refine lv_bipush (v := 20) F.1 F.2.1 dX9_cell_4 (by decide) ?_
  refine lv_icmp_ne (tgt := 12) F.1 F.2.1 dX9_cell_6 (by decide) (fun c_1 => ?_) (fun c_1 => ?_)
  · have h := (if_neg c_1).symm.trans h
    refine lv_aload_n F.1 F.2.1 dX9_cell_12 rfl (lv_at hl 0 rfl) ?_
    refine lv_iconst (v := 0) F.1 F.2.1 dX9_cell_13 (by decide) ?_
    refine rw_put ndM (q0 := 0) (x := 0) F hK hW hS idM_0 rfl rfl in_X9_cell_X9 tyX9 tyX9_ok nmX9 33 (by decide) lk_X9_cell_202 rfl (ty := .int) (by decide +kernel) rfl rfl (Nat.le_of_ble_eq_true rfl) rfl dX9_cell_14 (fun H locs S_2 eS_2 hW hS => ?_)
    have h := lt_n eS_2 h
    refine lv_aload_n F.1 F.2.1 dX9_cell_17 rfl (lv_at hl 0 rfl) ?_
    refine lv_iconst (v := 0) F.1 F.2.1 dX9_cell_18 (by decide) ?_
    refine rw_put ndM (q0 := 0) (x := 0) F hK hW hS idM_0 rfl rfl in_X9_cell_X9 tyX9 tyX9_ok nmX9 34 (by decide) lk_X9_cell_196 rfl (ty := .int) (by decide +kernel) rfl rfl (Nat.le_of_ble_eq_true rfl) rfl dX9_cell_19 (fun H locs S_3 eS_3 hW hS => ?_)
    have h := lt_n eS_3 h
    refine lv_aload_n F.1 F.2.1 dX9_cell_22 rfl (lv_at hl 0 rfl) ?_
    refine lv_iconst (v := 0) F.1 F.2.1 dX9_cell_23 (by decide) ?_
    refine rw_put ndM (q0 := 0) (x := 0) F hK hW hS idM_0 rfl rfl in_X9_cell_X9 tyX9 tyX9_ok nmX9 35 (by decide) lk_X9_cell_199 rfl (ty := .int) (by decide +kernel) rfl rfl (Nat.le_of_ble_eq_true rfl) rfl dX9_cell_24 (fun H locs S_4 eS_4 hW hS => ?_)
    have h := lt_n eS_4 h
    refine lv_aload_n F.1 F.2.1 dX9_cell_27 rfl (lv_at hl 0 rfl) ?_
    refine rw_get (q0 := 0) F hK hW idM_0 rfl rfl in_X9_cell_X9 24 (by decide) lk_X9_cell_59 rfl dX9_cell_28 ?_
    refine lv_aload_n F.1 F.2.1 dX9_cell_31 rfl (lv_at hl 0 rfl) ?_
    refine rw_get (q0 := 0) F hK hW idM_0 rfl rfl in_X9_cell_X9 22 (by decide) lk_X9_cell_222 rfl dX9_cell_32 ?_
    refine lv_aload_n F.1 F.2.1 dX9_cell_35 rfl (lv_at hl 0 rfl) ?_
    refine lv_iconst (v := 1) F.1 F.2.1 dX9_cell_36 (by decide) ?_
    refine lv_sipush (v := 999) F.1 F.2.1 dX9_cell_37 (by decide) ?_
    obtain ⟨r_6, S_7, hq_5, h⟩ := bi_some h
    refine rw_vi F hK hW hS [.int 1, .int 999] (rest := [.int (S_4 0 0 22), .ref (G.2.2 17 0)]) (c_X9_number l G A 1 999 S_4 (r_6, S_7) hq_5) (cwV 2 F.2.2.2.2 gX9_cell_X9_number rfl rfl rfl (by decide +kernel) ⟨Nat.le_of_ble_eq_true rfl, Nat.le_of_ble_eq_true rfl⟩) (rw_recv (q0 := 0) hK hW idM_0 rfl rfl) rfl hl.1 rfl (Nat.le_of_ble_eq_true rfl) dX9_cell_40 (fun H locs hW hS => ?_)
    obtain ⟨b_8, h⟩ := gd_some h
    refine rw_iast ndM (q0 := 17) F hK hW hS idM_17 (fun _ => rfl) (ix_in b_8) dX9_cell_43 (fun H locs S_9 eS_9 hW hS => ?_)
    have h := lt_n eS_9 h
    refine lv_aload_n F.1 F.2.1 dX9_cell_44 rfl (lv_at hl 0 rfl) ?_
    refine rw_get (q0 := 0) F hK hW idM_0 rfl rfl in_X9_cell_X9 34 (by decide) lk_X9_cell_196 rfl dX9_cell_45 ?_
    refine lv_if_ne (tgt := 67) F.1 F.2.1 dX9_cell_48 (by decide) (fun c_10 => ?_) (fun c_10 => ?_)
    · have h := (if_neg c_10).symm.trans h
      exact w_X9_cell_67 F hr hlk hK out  _ _ _ _  hW hS hl h
    · have h := (if_pos c_10).symm.trans h
      refine lv_aload_n F.1 F.2.1 dX9_cell_51 rfl (lv_at hl 0 rfl) ?_
      refine rw_get (q0 := 0) F hK hW idM_0 rfl rfl in_X9_cell_X9 25 (by decide) lk_X9_cell_62 rfl dX9_cell_52 ?_
      refine lv_aload_n F.1 F.2.1 dX9_cell_55 rfl (lv_at hl 0 rfl) ?_
      refine rw_get (q0 := 0) F hK hW idM_0 rfl rfl in_X9_cell_X9 22 (by decide) lk_X9_cell_222 rfl dX9_cell_56 ?_
      refine lv_aload_n F.1 F.2.1 dX9_cell_59 rfl (lv_at hl 0 rfl) ?_
      refine lv_iconst (v := 0) F.1 F.2.1 dX9_cell_60 (by decide) ?_
      refine lv_bipush (v := 99) F.1 F.2.1 dX9_cell_61 (by decide) ?_
      obtain ⟨r_23, S_24, hq_22, h⟩ := bi_some h
      refine rw_vi F hK hW hS [.int 0, .int 99] (rest := [.int (S_9 0 0 22), .ref (G.2.2 18 0)]) (c_X9_number l G A 0 99 S_9 (r_23, S_24) hq_22) (cwV 2 F.2.2.2.2 gX9_cell_X9_number rfl rfl rfl (by decide +kernel) ⟨Nat.le_of_ble_eq_true rfl, Nat.le_of_ble_eq_true rfl⟩) (rw_recv (q0 := 0) hK hW idM_0 rfl rfl) rfl hl.1 rfl (Nat.le_of_ble_eq_true rfl) dX9_cell_63 (fun H locs hW hS => ?_)
      obtain ⟨b_25, h⟩ := gd_some h
      refine rw_iast ndM (q0 := 18) F hK hW hS idM_18 (fun _ => rfl) (ix_in b_25) dX9_cell_66 (fun H locs S_26 eS_26 hW hS => ?_)
      have h := lt_n eS_26 h
      exact w_X9_cell_67 F hr hlk hK out  _ _ _ _  hW hS hl h
  · have h := (if_pos c_1).symm.trans h
    refine lv_bipush (v := -3) F.1 F.2.1 dX9_cell_9 (by decide) ?_
    exact rw_ret F hr hlk hK hW hS h dX9_cell_11
/-! CellCoverModel.fault()I -/
abbrev rm_X9_fault : Room := { frames := 0, cells := 0, slots := 0, locals := 0 }
theorem in_X9_fault_X9 : ∀ w ∈ wsX90, w ∈ wsX9_fault := by decide +kernel
theorem lk_X9_fault_232 : Cond.fieldLink RX9 232 "CellCoverModel" "faultNow" "I" ∈ wsX9_fault := by decide +kernel
set_option maxHeartbeats 4000000 in
set_option maxRecDepth 100000 in
theorem c_X9_fault (l : Launch) (G : GT) (A : Nat → Prop) (S : St) (out : Int32 × St) (h : f_X9_fault S = some out) : Met l yX9_fault wsX9_fault rm_X9_fault (va_Pc [.ref (G.2.2 0 0)] (WD shM idsM G A S)) (QI shM idsM G A out) 0 0 A := by
  refine Met.ofW (cc := cX9_fault) (maxL := 1) (ret := (some .int)) (by decide) rfl ?_
  intro p e s m args below meth c s₁ B hml hv
  obtain ⟨rfl, hW, hK⟩ := hv
  have F : CallFix p m c cX9_fault 1 s _ wsX9_fault RX9 := ⟨B.exec, B.bytes, hml, findClass_of_methodNamed B.named, atoms_spec (ws := wsX9_fault) B.pre⟩
  have hr := B.returns
  have hlk := B.notSynchronized
  have hS : va_S A s.heap s.heap [] := va_S.rf
  have hl := lv_entry ([.ref (G.2.2 0 0)]) (n := 1) (Nat.le_of_ble_eq_true rfl)
  rw [lg_entry_eq]
  generalize (lg_sl ([.ref (G.2.2 0 0)]) ++ List.replicate (1 - (lg_sl ([.ref (G.2.2 0 0)])).length) Slot.unset).toArray = ls at hl ⊢
  have hl : lv_has ls 1 [(0, .ref (G.2.2 0 0))] := hl
  unfold f_X9_fault at h
  refine lv_aload_n F.1 F.2.1 dX9_fault_0 rfl (lv_at hl 0 rfl) ?_
  refine rw_get (q0 := 0) F hK hW idM_0 rfl rfl in_X9_fault_X9 21 (by decide) lk_X9_fault_232 rfl dX9_fault_1 ?_
  exact rw_ret F hr hlk hK hW hS h dX9_fault_4
/-! CellCoverModel.isCell(I)Z -/
abbrev rm_X9_isCell : Room := { frames := 1, cells := 0, slots := 0, locals := 25 }
theorem in_X9_isCell_X9 : ∀ w ∈ wsX90, w ∈ wsX9_isCell := by decide +kernel
theorem lk_X9_isCell_222 : Cond.fieldLink RX9 222 "CellCoverModel" "cells" "I" ∈ wsX9_isCell := by decide +kernel
theorem lk_X9_isCell_56 : Cond.fieldLink RX9 56 "CellCoverModel" "isThere" "[Z" ∈ wsX9_isCell := by decide +kernel
set_option maxHeartbeats 4000000 in
set_option maxRecDepth 100000 in
theorem w_X9_isCell_30 {p : Program} {l : Launch} {e : Env} {s : State} {m : MethodId} {args : Array Value} {below : List Frame} {meth : Method} {c : Code} {G : GT} {A : Nat → Prop} (F : CallFix p m c cX9_isCell 2 s args wsX9_isCell RX9) (hr : meth.sig.returnType = (some .boolean)) (hlk : meth.locks = false) (hK : va_K G.1 vwCl (tyl G) s) (out : Int32 × St) : ∀ (S : St) (y0 : Int32) (H : Heap) (locs : List Loc) (ls : Array Slot), Wd shM idsM G A S H → va_S A s.heap H locs → lv_has ls 2 [] → j_X9_isCell_30 S y0 = some out → W p l e rm_X9_isCell s m args below meth c H locs 0 0 (MQ below (QI shM idsM G A out) args s 0 0 A) (F0 m 30 ls [.int y0]) := by
  intro S y0 H locs ls hW hS hl h
  unfold j_X9_isCell_30 at h
  obtain ⟨b_5, h⟩ := gd_some h
  exact rw_retz F hr hlk hK hW hS b_5 h dX9_isCell_30
set_option maxHeartbeats 4000000 in
set_option maxRecDepth 100000 in
theorem w_X9_isCell_29 {p : Program} {l : Launch} {e : Env} {s : State} {m : MethodId} {args : Array Value} {below : List Frame} {meth : Method} {c : Code} {G : GT} {A : Nat → Prop} (F : CallFix p m c cX9_isCell 2 s args wsX9_isCell RX9) (hr : meth.sig.returnType = (some .boolean)) (hlk : meth.locks = false) (hK : va_K G.1 vwCl (tyl G) s) (out : Int32 × St) : ∀ (S : St) (H : Heap) (locs : List Loc) (ls : Array Slot), Wd shM idsM G A S H → va_S A s.heap H locs → lv_has ls 2 [] → j_X9_isCell_29 S = some out → W p l e rm_X9_isCell s m args below meth c H locs 0 0 (MQ below (QI shM idsM G A out) args s 0 0 A) (F0 m 29 ls []) := by
  intro S H locs ls hW hS hl h
  unfold j_X9_isCell_29 at h
  refine lv_iconst (v := 0) F.1 F.2.1 dX9_isCell_29 (by decide) ?_
  exact w_X9_isCell_30 F hr hlk hK out  _ _ _ _ _  hW hS hl h
set_option maxHeartbeats 4000000 in
set_option maxRecDepth 100000 in
theorem c_X9_isCell (l : Launch) (G : GT) (A : Nat → Prop) (a0 : Int32) (S : St) (out : Int32 × St) (h : f_X9_isCell a0 S = some out) : Met l yX9_isCell wsX9_isCell rm_X9_isCell (va_Pc [.ref (G.2.2 0 0), .int a0] (WD shM idsM G A S)) (QI shM idsM G A out) 0 0 A := by
  refine Met.ofW (cc := cX9_isCell) (maxL := 2) (ret := (some .boolean)) (by decide) rfl ?_
  intro p e s m args below meth c s₁ B hml hv
  obtain ⟨rfl, hW, hK⟩ := hv
  have F : CallFix p m c cX9_isCell 2 s _ wsX9_isCell RX9 := ⟨B.exec, B.bytes, hml, findClass_of_methodNamed B.named, atoms_spec (ws := wsX9_isCell) B.pre⟩
  have hr := B.returns
  have hlk := B.notSynchronized
  have hS : va_S A s.heap s.heap [] := va_S.rf
  have hl := lv_entry ([.ref (G.2.2 0 0), .int a0]) (n := 2) (Nat.le_of_ble_eq_true rfl)
  rw [lg_entry_eq]
  generalize (lg_sl ([.ref (G.2.2 0 0), .int a0]) ++ List.replicate (2 - (lg_sl ([.ref (G.2.2 0 0), .int a0])).length) Slot.unset).toArray = ls at hl ⊢
  have hl : lv_has ls 2 [(0, .ref (G.2.2 0 0)), (1, .int a0)] := hl
  unfold f_X9_isCell at h
  refine lv_iload_n F.1 F.2.1 dX9_isCell_0 rfl (lv_at hl 1 rfl) ?_
  refine lv_i2l (v := a0.toInt64) F.1 F.2.1 dX9_isCell_1 rfl ?_
  refine lv_lconst (v := 0) F.1 F.2.1 dX9_isCell_2 (by decide) ?_
  refine lv_aload_n F.1 F.2.1 dX9_isCell_3 rfl (lv_at hl 0 rfl) ?_
  refine rw_get (q0 := 0) F hK hW idM_0 rfl rfl in_X9_isCell_X9 22 (by decide) lk_X9_isCell_222 rfl dX9_isCell_4 ?_
  refine lv_iconst (v := 1) F.1 F.2.1 dX9_isCell_7 (by decide) ?_
  refine lv_isub F.1 F.2.1 dX9_isCell_8 ?_
  refine lv_i2l (v := ((S 0 0 22) - 1).toInt64) F.1 F.2.1 dX9_isCell_9 rfl ?_
  obtain ⟨r_2, S_3, hq_1, h⟩ := bi_some h
  refine rw_si F hK hW hS [.long a0.toInt64, .long 0, .long (((S 0 0 22) - 1).toInt64)] (rest := []) (c_X9_in l G A a0.toInt64 0 (((S 0 0 22) - 1).toInt64) S (r_2, S_3) hq_1) (va_cwS 3 F.2.2.2.2 gX9_isCell_X9_in rfl rfl rfl (by decide +kernel) ⟨Nat.le_of_ble_eq_true rfl, Nat.le_of_ble_eq_true rfl⟩) rfl hl.1 rfl (Nat.le_of_ble_eq_true rfl) dX9_isCell_10 (fun H locs hW hS => ?_)
  refine lv_if_eq (tgt := 29) F.1 F.2.1 dX9_isCell_13 (by decide) (fun c_4 => ?_) (fun c_4 => ?_)
  · have h := (if_pos c_4).symm.trans h
    exact w_X9_isCell_29 F hr hlk hK out  _ _ _ _  hW hS (lv_sub hl [] rfl) h
  · have h := (if_neg c_4).symm.trans h
    refine lv_aload_n F.1 F.2.1 dX9_isCell_16 rfl (lv_at hl 0 rfl) ?_
    refine rw_get (q0 := 0) F hK hW idM_0 rfl rfl in_X9_isCell_X9 23 (by decide) lk_X9_isCell_56 rfl dX9_isCell_17 ?_
    refine lv_iload_n F.1 F.2.1 dX9_isCell_20 rfl (lv_at hl 1 rfl) ?_
    obtain ⟨b_6, h⟩ := gd_some h
    refine rw_zald (q0 := 16) F hK hW idM_16 (fun _ => rfl) (ix_in b_6) dX9_isCell_21 ?_
    refine lv_topi (fun v_7 ev_7 => ?_)
    have h := lt_n ev_7 h
    refine lv_if_eq (tgt := 29) F.1 F.2.1 dX9_isCell_22 (by decide) (fun c_8 => ?_) (fun c_8 => ?_)
    · have h := (if_pos c_8).symm.trans h
      exact w_X9_isCell_29 F hr hlk hK out  _ _ _ _  hW hS (lv_sub hl [] rfl) h
    · have h := (if_neg c_8).symm.trans h
      refine lv_iconst (v := 1) F.1 F.2.1 dX9_isCell_25 (by decide) ?_
      refine lv_goto (tgt := 30) F.1 F.2.1 dX9_isCell_26 (by decide) ?_
      exact w_X9_isCell_30 F hr hlk hK out  _ _ _ _ _  hW hS (lv_sub hl [] rfl) h
/-! CellCoverModel.drop(I)I -/
abbrev rm_X9_drop : Room := { frames := 2, cells := 0, slots := 0, locals := 46 }
theorem in_X9_drop_X9 : ∀ w ∈ wsX90, w ∈ wsX9_drop := by decide +kernel
theorem lk_X9_drop_56 : Cond.fieldLink RX9 56 "CellCoverModel" "isThere" "[Z" ∈ wsX9_drop := by decide +kernel
set_option maxHeartbeats 4000000 in
set_option maxRecDepth 100000 in
theorem c_X9_drop (l : Launch) (G : GT) (A : Nat → Prop) (a0 : Int32) (S : St) (out : Int32 × St) (h : f_X9_drop a0 S = some out) : Met l yX9_drop wsX9_drop rm_X9_drop (va_Pc [.ref (G.2.2 0 0), .int a0] (WD shM idsM G A S)) (QI shM idsM G A out) 0 0 A := by
  refine Met.ofW (cc := cX9_drop) (maxL := 2) (ret := (some .int)) (by decide) rfl ?_
  intro p e s m args below meth c s₁ B hml hv
  obtain ⟨rfl, hW, hK⟩ := hv
  have F : CallFix p m c cX9_drop 2 s _ wsX9_drop RX9 := ⟨B.exec, B.bytes, hml, findClass_of_methodNamed B.named, atoms_spec (ws := wsX9_drop) B.pre⟩
  have hr := B.returns
  have hlk := B.notSynchronized
  have hS : va_S A s.heap s.heap [] := va_S.rf
  have hl := lv_entry ([.ref (G.2.2 0 0), .int a0]) (n := 2) (Nat.le_of_ble_eq_true rfl)
  rw [lg_entry_eq]
  generalize (lg_sl ([.ref (G.2.2 0 0), .int a0]) ++ List.replicate (2 - (lg_sl ([.ref (G.2.2 0 0), .int a0])).length) Slot.unset).toArray = ls at hl ⊢
  have hl : lv_has ls 2 [(0, .ref (G.2.2 0 0)), (1, .int a0)] := hl
  unfold f_X9_drop at h
  refine lv_aload_n F.1 F.2.1 dX9_drop_0 rfl (lv_at hl 0 rfl) ?_
  refine lv_iload_n F.1 F.2.1 dX9_drop_1 rfl (lv_at hl 1 rfl) ?_
  obtain ⟨r_2, S_3, hq_1, h⟩ := bi_some h
  refine rw_vi F hK hW hS [.int a0] (rest := []) (c_X9_isCell l G A a0 S (r_2, S_3) hq_1) (cwV 1 F.2.2.2.2 gX9_drop_X9_isCell rfl rfl rfl (by decide +kernel) ⟨Nat.le_of_ble_eq_true rfl, Nat.le_of_ble_eq_true rfl⟩) (rw_recv (q0 := 0) hK hW idM_0 rfl rfl) rfl hl.1 rfl (Nat.le_of_ble_eq_true rfl) dX9_drop_2 (fun H locs hW hS => ?_)
  refine lv_if_ne (tgt := 10) F.1 F.2.1 dX9_drop_5 (by decide) (fun c_4 => ?_) (fun c_4 => ?_)
  · have h := (if_neg c_4).symm.trans h
    refine lv_aload_n F.1 F.2.1 dX9_drop_10 rfl (lv_at hl 0 rfl) ?_
    refine rw_get (q0 := 0) F hK hW idM_0 rfl rfl in_X9_drop_X9 23 (by decide) lk_X9_drop_56 rfl dX9_drop_11 ?_
    refine lv_iload_n F.1 F.2.1 dX9_drop_14 rfl (lv_at hl 1 rfl) ?_
    refine lv_iconst (v := 0) F.1 F.2.1 dX9_drop_15 (by decide) ?_
    obtain ⟨b_5, h⟩ := gd_some h
    refine rw_zast ndM (q0 := 16) F hK hW hS idM_16 (fun _ => rfl) (ix_in b_5) dX9_drop_16 (fun H locs S_6 eS_6 hW hS => ?_)
    have h := lt_n eS_6 h
    refine lv_aload_n F.1 F.2.1 dX9_drop_17 rfl (lv_at hl 0 rfl) ?_
    refine lv_iconst (v := 3) F.1 F.2.1 dX9_drop_18 (by decide) ?_
    refine lv_iload_n F.1 F.2.1 dX9_drop_19 rfl (lv_at hl 1 rfl) ?_
    obtain ⟨q_7, hq_7, h⟩ := bv_some h
    refine rw_vv F hK hW hS [.int 3, .int a0] (rest := []) (c_X9_did l G A 3 a0 S_6 q_7 hq_7) (cwV 2 F.2.2.2.2 gX9_drop_X9_did rfl rfl rfl (by decide +kernel) ⟨Nat.le_of_ble_eq_true rfl, Nat.le_of_ble_eq_true rfl⟩) (rw_recv (q0 := 0) hK hW idM_0 rfl rfl) rfl hl.1 rfl (Nat.le_of_ble_eq_true rfl) dX9_drop_20 (fun H locs hW hS => ?_)
    refine lv_iconst (v := 1) F.1 F.2.1 dX9_drop_23 (by decide) ?_
    exact rw_ret F hr hlk hK hW hS h dX9_drop_24
  · have h := (if_pos c_4).symm.trans h
    refine lv_iconst (v := -1) F.1 F.2.1 dX9_drop_8 (by decide) ?_
    exact rw_ret F hr hlk hK hW hS h dX9_drop_9
/-! CellCoverModel.undo()I -/
abbrev rm_X9_undo : Room := { frames := 4, cells := 0, slots := 0, locals := 101 }
theorem in_X9_undo_X9 : ∀ w ∈ wsX90, w ∈ wsX9_undo := by decide +kernel
theorem lk_X9_undo_128 : Cond.fieldLink RX9 128 "CellCoverModel" "acts" "I" ∈ wsX9_undo := by decide +kernel
theorem lk_X9_undo_25 : Cond.fieldLink RX9 25 "CellCoverModel" "actWhat" "[I" ∈ wsX9_undo := by decide +kernel
theorem lk_X9_undo_136 : Cond.fieldLink RX9 136 "CellCoverModel" "nodes" "I" ∈ wsX9_undo := by decide +kernel
theorem lk_X9_undo_132 : Cond.fieldLink RX9 132 "CellCoverModel" "hasCover" "Z" ∈ wsX9_undo := by decide +kernel
theorem lk_X9_undo_160 : Cond.fieldLink RX9 160 "CellCoverModel" "outputs" "I" ∈ wsX9_undo := by decide +kernel
theorem lk_X9_undo_222 : Cond.fieldLink RX9 222 "CellCoverModel" "cells" "I" ∈ wsX9_undo := by decide +kernel
theorem lk_X9_undo_56 : Cond.fieldLink RX9 56 "CellCoverModel" "isThere" "[Z" ∈ wsX9_undo := by decide +kernel
theorem lk_X9_undo_28 : Cond.fieldLink RX9 28 "CellCoverModel" "actOn" "[I" ∈ wsX9_undo := by decide +kernel
set_option maxHeartbeats 4000000 in
set_option maxRecDepth 100000 in
theorem w_X9_undo_110 {p : Program} {l : Launch} {e : Env} {s : State} {m : MethodId} {args : Array Value} {below : List Frame} {meth : Method} {c : Code} {G : GT} {A : Nat → Prop} (F : CallFix p m c cX9_undo 1 s args wsX9_undo RX9) (hr : meth.sig.returnType = (some .int)) (hlk : meth.locks = false) (hK : va_K G.1 vwCl (tyl G) s) (out : Int32 × St) : ∀ (S : St) (H : Heap) (locs : List Loc) (ls : Array Slot), Wd shM idsM G A S H → va_S A s.heap H locs → lv_has ls 1 [(0, .ref (G.2.2 0 0))] → j_X9_undo_110 S = some out → W p l e rm_X9_undo s m args below meth c H locs 0 0 (MQ below (QI shM idsM G A out) args s 0 0 A) (F0 m 110 ls []) := by
  intro S H locs ls hW hS hl h
  unfold j_X9_undo_110 at h
  refine lv_aload_n F.1 F.2.1 dX9_undo_110 rfl (lv_at hl 0 rfl) ?_
  refine lv_iconst (v := 0) F.1 F.2.1 dX9_undo_111 (by decide) ?_
  refine rw_put ndM (q0 := 0) (x := 0) F hK hW hS idM_0 rfl rfl in_X9_undo_X9 tyX9 tyX9_ok nmX9 10 (by decide) lk_X9_undo_132 rfl (ty := .boolean) (by decide +kernel) (by decide) (by decide) (Nat.le_of_ble_eq_true rfl) rfl dX9_undo_112 (fun H locs S_7 eS_7 hW hS => ?_)
  have h := lt_n eS_7 h
  refine lv_aload_n F.1 F.2.1 dX9_undo_115 rfl (lv_at hl 0 rfl) ?_
  obtain ⟨q_8, hq_8, h⟩ := bv_some h
  refine rw_vv F hK hW hS [] (rest := []) (c_X9_make l G A  S_7 q_8 hq_8) (cwV 0 F.2.2.2.2 gX9_undo_X9_make rfl rfl rfl (by decide +kernel) ⟨Nat.le_of_ble_eq_true rfl, Nat.le_of_ble_eq_true rfl⟩) (rw_recv (q0 := 0) hK hW idM_0 rfl rfl) rfl hl.1 rfl (Nat.le_of_ble_eq_true rfl) dX9_undo_116 (fun H locs hW hS => ?_)
  refine lv_aload_n F.1 F.2.1 dX9_undo_119 rfl (lv_at hl 0 rfl) ?_
  refine rw_get (q0 := 0) F hK hW idM_0 rfl rfl in_X9_undo_X9 7 (by decide) lk_X9_undo_128 rfl dX9_undo_120 ?_
  exact rw_ret F hr hlk hK hW hS h dX9_undo_123
set_option maxHeartbeats 4000000 in
set_option maxRecDepth 100000 in
theorem c_X9_undo (l : Launch) (G : GT) (A : Nat → Prop) (S : St) (out : Int32 × St) (h : f_X9_undo S = some out) : Met l yX9_undo wsX9_undo rm_X9_undo (va_Pc [.ref (G.2.2 0 0)] (WD shM idsM G A S)) (QI shM idsM G A out) 0 0 A := by
  refine Met.ofW (cc := cX9_undo) (maxL := 1) (ret := (some .int)) (by decide) rfl ?_
  intro p e s m args below meth c s₁ B hml hv
  obtain ⟨rfl, hW, hK⟩ := hv
  have F : CallFix p m c cX9_undo 1 s _ wsX9_undo RX9 := ⟨B.exec, B.bytes, hml, findClass_of_methodNamed B.named, atoms_spec (ws := wsX9_undo) B.pre⟩
  have hr := B.returns
  have hlk := B.notSynchronized
  have hS : va_S A s.heap s.heap [] := va_S.rf
  have hl := lv_entry ([.ref (G.2.2 0 0)]) (n := 1) (Nat.le_of_ble_eq_true rfl)
  rw [lg_entry_eq]
  generalize (lg_sl ([.ref (G.2.2 0 0)]) ++ List.replicate (1 - (lg_sl ([.ref (G.2.2 0 0)])).length) Slot.unset).toArray = ls at hl ⊢
  have hl : lv_has ls 1 [(0, .ref (G.2.2 0 0))] := hl
  unfold f_X9_undo at h
  refine lv_aload_n F.1 F.2.1 dX9_undo_0 rfl (lv_at hl 0 rfl) ?_
  refine rw_get (q0 := 0) F hK hW idM_0 rfl rfl in_X9_undo_X9 7 (by decide) lk_X9_undo_128 rfl dX9_undo_1 ?_
  refine lv_if_ne (tgt := 10) F.1 F.2.1 dX9_undo_4 (by decide) (fun c_1 => ?_) (fun c_1 => ?_)
  · have h := (if_neg c_1).symm.trans h
    refine lv_aload_n F.1 F.2.1 dX9_undo_10 rfl (lv_at hl 0 rfl) ?_
    refine lv_dup F.1 F.2.1 dX9_undo_11 rfl ?_
    refine rw_get (q0 := 0) F hK hW idM_0 rfl rfl in_X9_undo_X9 7 (by decide) lk_X9_undo_128 rfl dX9_undo_12 ?_
    refine lv_iconst (v := 1) F.1 F.2.1 dX9_undo_15 (by decide) ?_
    refine lv_isub F.1 F.2.1 dX9_undo_16 ?_
    refine rw_put ndM (q0 := 0) (x := (S 0 0 7) - 1) F hK hW hS idM_0 rfl rfl in_X9_undo_X9 tyX9 tyX9_ok nmX9 7 (by decide) lk_X9_undo_128 rfl (ty := .int) (by decide +kernel) rfl rfl (Nat.le_of_ble_eq_true rfl) rfl dX9_undo_17 (fun H locs S_2 eS_2 hW hS => ?_)
    have h := lt_n eS_2 h
    refine lv_aload_n F.1 F.2.1 dX9_undo_20 rfl (lv_at hl 0 rfl) ?_
    refine rw_get (q0 := 0) F hK hW idM_0 rfl rfl in_X9_undo_X9 8 (by decide) lk_X9_undo_25 rfl dX9_undo_21 ?_
    refine lv_aload_n F.1 F.2.1 dX9_undo_24 rfl (lv_at hl 0 rfl) ?_
    refine rw_get (q0 := 0) F hK hW idM_0 rfl rfl in_X9_undo_X9 7 (by decide) lk_X9_undo_128 rfl dX9_undo_25 ?_
    obtain ⟨b_3, h⟩ := gd_some h
    refine rw_iald (q0 := 6) F hK hW idM_6 (fun _ => rfl) (ix_in b_3) dX9_undo_28 ?_
    refine lv_topi (fun v_4 ev_4 => ?_)
    have h := lt_n ev_4 h
    by_cases c_5 : v_4 = 0
    · have h := (if_pos c_5).symm.trans h
      refine lv_tableIn (off := 27) (tgt := 56) F.1 F.2.1 dX9_undo_29 (by rw [c_5]; decide) (by rw [c_5]; decide) (by rw [c_5]; rfl) (by decide) ?_
      refine lv_aload_n F.1 F.2.1 dX9_undo_56 rfl (lv_at hl 0 rfl) ?_
      refine lv_dup F.1 F.2.1 dX9_undo_57 rfl ?_
      refine rw_get (q0 := 0) F hK hW idM_0 rfl rfl in_X9_undo_X9 0 (by decide) lk_X9_undo_136 rfl dX9_undo_58 ?_
      refine lv_iconst (v := 1) F.1 F.2.1 dX9_undo_61 (by decide) ?_
      refine lv_isub F.1 F.2.1 dX9_undo_62 ?_
      refine rw_put ndM (q0 := 0) (x := (S_2 0 0 0) - 1) F hK hW hS idM_0 rfl rfl in_X9_undo_X9 tyX9 tyX9_ok nmX9 0 (by decide) lk_X9_undo_136 rfl (ty := .int) (by decide +kernel) rfl rfl (Nat.le_of_ble_eq_true rfl) rfl dX9_undo_63 (fun H locs S_6 eS_6 hW hS => ?_)
      have h := lt_n eS_6 h
      refine lv_goto (tgt := 110) F.1 F.2.1 dX9_undo_66 (by decide) ?_
      exact w_X9_undo_110 F hr hlk hK out  _ _ _ _  hW hS hl h
    · have h := (if_neg c_5).symm.trans h
      by_cases c_10 : v_4 = 1
      · have h := (if_pos c_10).symm.trans h
        refine lv_tableIn (off := 40) (tgt := 69) F.1 F.2.1 dX9_undo_29 (by rw [c_10]; decide) (by rw [c_10]; decide) (by rw [c_10]; rfl) (by decide) ?_
        refine lv_aload_n F.1 F.2.1 dX9_undo_69 rfl (lv_at hl 0 rfl) ?_
        refine lv_dup F.1 F.2.1 dX9_undo_70 rfl ?_
        refine rw_get (q0 := 0) F hK hW idM_0 rfl rfl in_X9_undo_X9 5 (by decide) lk_X9_undo_160 rfl dX9_undo_71 ?_
        refine lv_iconst (v := 1) F.1 F.2.1 dX9_undo_74 (by decide) ?_
        refine lv_isub F.1 F.2.1 dX9_undo_75 ?_
        refine rw_put ndM (q0 := 0) (x := (S_2 0 0 5) - 1) F hK hW hS idM_0 rfl rfl in_X9_undo_X9 tyX9 tyX9_ok nmX9 5 (by decide) lk_X9_undo_160 rfl (ty := .int) (by decide +kernel) rfl rfl (Nat.le_of_ble_eq_true rfl) rfl dX9_undo_76 (fun H locs S_11 eS_11 hW hS => ?_)
        have h := lt_n eS_11 h
        refine lv_goto (tgt := 110) F.1 F.2.1 dX9_undo_79 (by decide) ?_
        exact w_X9_undo_110 F hr hlk hK out  _ _ _ _  hW hS hl h
      · have h := (if_neg c_10).symm.trans h
        by_cases c_12 : v_4 = 2
        · have h := (if_pos c_12).symm.trans h
          refine lv_tableIn (off := 53) (tgt := 82) F.1 F.2.1 dX9_undo_29 (by rw [c_12]; decide) (by rw [c_12]; decide) (by rw [c_12]; rfl) (by decide) ?_
          refine lv_aload_n F.1 F.2.1 dX9_undo_82 rfl (lv_at hl 0 rfl) ?_
          refine lv_dup F.1 F.2.1 dX9_undo_83 rfl ?_
          refine rw_get (q0 := 0) F hK hW idM_0 rfl rfl in_X9_undo_X9 22 (by decide) lk_X9_undo_222 rfl dX9_undo_84 ?_
          refine lv_iconst (v := 1) F.1 F.2.1 dX9_undo_87 (by decide) ?_
          refine lv_isub F.1 F.2.1 dX9_undo_88 ?_
          refine rw_put ndM (q0 := 0) (x := (S_2 0 0 22) - 1) F hK hW hS idM_0 rfl rfl in_X9_undo_X9 tyX9 tyX9_ok nmX9 22 (by decide) lk_X9_undo_222 rfl (ty := .int) (by decide +kernel) rfl rfl (Nat.le_of_ble_eq_true rfl) rfl dX9_undo_89 (fun H locs S_13 eS_13 hW hS => ?_)
          have h := lt_n eS_13 h
          refine lv_goto (tgt := 110) F.1 F.2.1 dX9_undo_92 (by decide) ?_
          exact w_X9_undo_110 F hr hlk hK out  _ _ _ _  hW hS hl h
        · have h := (if_neg c_12).symm.trans h
          have nc_5 := lv_neT c_5 (a := 0) (by decide)
          have nc_10 := lv_neT c_10 (a := 1) (by decide)
          have nc_12 := lv_neT c_12 (a := 2) (by decide)
          refine lv_tableOut (tgt := 95) F.1 F.2.1 dX9_undo_29 (by omega) (by decide) ?_
          refine lv_aload_n F.1 F.2.1 dX9_undo_95 rfl (lv_at hl 0 rfl) ?_
          refine rw_get (q0 := 0) F hK hW idM_0 rfl rfl in_X9_undo_X9 23 (by decide) lk_X9_undo_56 rfl dX9_undo_96 ?_
          refine lv_aload_n F.1 F.2.1 dX9_undo_99 rfl (lv_at hl 0 rfl) ?_
          refine rw_get (q0 := 0) F hK hW idM_0 rfl rfl in_X9_undo_X9 9 (by decide) lk_X9_undo_28 rfl dX9_undo_100 ?_
          refine lv_aload_n F.1 F.2.1 dX9_undo_103 rfl (lv_at hl 0 rfl) ?_
          refine rw_get (q0 := 0) F hK hW idM_0 rfl rfl in_X9_undo_X9 7 (by decide) lk_X9_undo_128 rfl dX9_undo_104 ?_
          obtain ⟨b_14, h⟩ := gd_some h
          refine rw_iald (q0 := 7) F hK hW idM_7 (fun _ => rfl) (ix_in b_14) dX9_undo_107 ?_
          refine lv_topi (fun v_15 ev_15 => ?_)
          have h := lt_n ev_15 h
          refine lv_iconst (v := 1) F.1 F.2.1 dX9_undo_108 (by decide) ?_
          obtain ⟨b_16, h⟩ := gd_some h
          refine rw_zast ndM (q0 := 16) F hK hW hS idM_16 (fun _ => rfl) (ix_in b_16) dX9_undo_109 (fun H locs S_17 eS_17 hW hS => ?_)
          have h := lt_n eS_17 h
          exact w_X9_undo_110 F hr hlk hK out  _ _ _ _  hW hS hl h
  · have h := (if_pos c_1).symm.trans h
    refine lv_bipush (v := -2) F.1 F.2.1 dX9_undo_7 (by decide) ?_
    exact rw_ret F hr hlk hK hW hS h dX9_undo_9
