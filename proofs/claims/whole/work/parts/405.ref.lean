/-! CellCoverModel.tryAll(IIII)V -/
abbrev rm_X9_tryAll : Room := { frames := 1, cells := 0, slots := 0, locals := 29 }
theorem in_X9_tryAll_X9 : ∀ w ∈ wsX90, w ∈ wsX9_tryAll := by decide +kernel
theorem lk_X9_tryAll_68 : Cond.fieldLink RX9 68 "CellCoverModel" "nands" "[I" ∈ wsX9_tryAll := by decide +kernel
theorem lk_X9_tryAll_59 : Cond.fieldLink RX9 59 "CellCoverModel" "area" "[I" ∈ wsX9_tryAll := by decide +kernel
theorem lk_X9_tryAll_95 : Cond.fieldLink RX9 95 "CellCoverModel" "pins" "[I" ∈ wsX9_tryAll := by decide +kernel
theorem lk_X9_tryAll_50 : Cond.fieldLink RX9 50 "CellCoverModel" "root" "[Z" ∈ wsX9_tryAll := by decide +kernel
theorem lk_X9_tryAll_101 : Cond.fieldLink RX9 101 "CellCoverModel" "bestArea" "[I" ∈ wsX9_tryAll := by decide +kernel
theorem lk_X9_tryAll_104 : Cond.fieldLink RX9 104 "CellCoverModel" "bestArrival" "[I" ∈ wsX9_tryAll := by decide +kernel
theorem lk_X9_tryAll_98 : Cond.fieldLink RX9 98 "CellCoverModel" "has" "[Z" ∈ wsX9_tryAll := by decide +kernel
theorem lk_X9_tryAll_62 : Cond.fieldLink RX9 62 "CellCoverModel" "delay" "[I" ∈ wsX9_tryAll := by decide +kernel
theorem lk_X9_tryAll_107 : Cond.fieldLink RX9 107 "CellCoverModel" "bestCell" "[I" ∈ wsX9_tryAll := by decide +kernel
theorem lk_X9_tryAll_110 : Cond.fieldLink RX9 110 "CellCoverModel" "bestPins" "[I" ∈ wsX9_tryAll := by decide +kernel
set_option maxHeartbeats 4000000 in
set_option maxRecDepth 100000 in
theorem w_X9_tryAll_362 {p : Program} {l : Launch} {e : Env} {s : State} {m : MethodId} {args : Array Value} {below : List Frame} {meth : Method} {c : Code} {G : GT} {A : Nat → Prop} (F : CallFix p m c cX9_tryAll 14 s args wsX9_tryAll RX9) (hr : meth.sig.returnType = none) (hlk : meth.locks = false) (hK : va_K G.1 vwCl (tyl G) s) (out : St) (kb : St → Int32 → Int32 → Int32 → Int32 → Int32 → Option (St)) (Kb : ∀ (S : St) (x1 : Int32) (x2 : Int32) (x3 : Int32) (x4 : Int32) (x5 : Int32) (H : Heap) (locs : List Loc) (ls : Array Slot), Wd shM idsM G A S H → va_S A s.heap H locs → lv_has ls 14 [(0, .ref (G.2.2 0 0)), (1, .int x1), (2, .int x2), (3, .int x3), (4, .int x4), (5, .int x5)] → kb S x1 x2 x3 x4 x5 = some out → W p l e rm_X9_tryAll s m args below meth c H locs 0 0 (MQ below (QV shM idsM G A out) args s 0 0 A) (F0 m 3 ls [])) : ∀ (S : St) (x1 : Int32) (x2 : Int32) (x3 : Int32) (x4 : Int32) (x5 : Int32) (H : Heap) (locs : List Loc) (ls : Array Slot), Wd shM idsM G A S H → va_S A s.heap H locs → lv_has ls 14 [(0, .ref (G.2.2 0 0)), (1, .int x1), (2, .int x2), (3, .int x3), (4, .int x4), (5, .int x5)] → j_X9_tryAll_362 kb S x1 x2 x3 x4 x5 = some out → W p l e rm_X9_tryAll s m args below meth c H locs 0 0 (MQ below (QV shM idsM G A out) args s 0 0 A) (F0 m 362 ls []) := by
  intro S x1 x2 x3 x4 x5 H locs ls hW hS hl h
  unfold j_X9_tryAll_362 at h
  obtain ⟨v_8, ev_8⟩ : ∃ y : Int32, y = x5 + 1 := ⟨_, rfl⟩
  have h := lt_n ev_8 h
  refine lv_iinc (v := v_8) (lv' := [(5, .int v_8), (0, .ref (G.2.2 0 0)), (1, .int x1), (2, .int x2), (3, .int x3), (4, .int x4)]) F.1 F.2.1 dX9_tryAll_362 hl (k := 5) rfl (by rw [ev_8]; rfl) (by decide) rfl (fun ls hl => ?_)
  refine lv_goto (tgt := 3) F.1 F.2.1 dX9_tryAll_365 (by decide) ?_
  exact Kb _ _ _ _ _ _ _ _ _  hW hS (lv_sub hl [1, 2, 3, 4, 5, 0] rfl) h
set_option maxHeartbeats 4000000 in
set_option maxRecDepth 100000 in
theorem w_X9_tryAll_153 {p : Program} {l : Launch} {e : Env} {s : State} {m : MethodId} {args : Array Value} {below : List Frame} {meth : Method} {c : Code} {G : GT} {A : Nat → Prop} (F : CallFix p m c cX9_tryAll 14 s args wsX9_tryAll RX9) (hr : meth.sig.returnType = none) (hlk : meth.locks = false) (hK : va_K G.1 vwCl (tyl G) s) (out : St) (kb : St → Int32 → Int32 → Int32 → Int32 → Int32 → Int32 → Int32 → Int32 → Int32 → Option (St)) (k159 : St → Int32 → Int32 → Int32 → Int32 → Int32 → Int32 → Int32 → Int32 → Option (St)) (Kb : ∀ (S : St) (x1 : Int32) (x2 : Int32) (x3 : Int32) (x4 : Int32) (x5 : Int32) (x6 : Int32) (x7 : Int32) (x8 : Int32) (x9 : Int32) (H : Heap) (locs : List Loc) (ls : Array Slot), Wd shM idsM G A S H → va_S A s.heap H locs → lv_has ls 14 [(0, .ref (G.2.2 0 0)), (1, .int x1), (2, .int x2), (3, .int x3), (4, .int x4), (5, .int x5), (6, .int x6), (7, .int x7), (8, .int x8), (9, .int x9)] → kb S x1 x2 x3 x4 x5 x6 x7 x8 x9 = some out → W p l e rm_X9_tryAll s m args below meth c H locs 0 0 (MQ below (QV shM idsM G A out) args s 0 0 A) (F0 m 44 ls [])) (K159 : ∀ (S : St) (x1 : Int32) (x2 : Int32) (x3 : Int32) (x4 : Int32) (x5 : Int32) (x6 : Int32) (x7 : Int32) (x8 : Int32) (H : Heap) (locs : List Loc) (ls : Array Slot), Wd shM idsM G A S H → va_S A s.heap H locs → lv_has ls 14 [(0, .ref (G.2.2 0 0)), (1, .int x1), (2, .int x2), (3, .int x3), (4, .int x4), (5, .int x5), (6, .int x6), (7, .int x7), (8, .int x8)] → k159 S x1 x2 x3 x4 x5 x6 x7 x8 = some out → W p l e rm_X9_tryAll s m args below meth c H locs 0 0 (MQ below (QV shM idsM G A out) args s 0 0 A) (F0 m 159 ls [])) : ∀ (S : St) (x1 : Int32) (x2 : Int32) (x3 : Int32) (x4 : Int32) (x5 : Int32) (x6 : Int32) (x7 : Int32) (x8 : Int32) (x9 : Int32) (H : Heap) (locs : List Loc) (ls : Array Slot), Wd shM idsM G A S H → va_S A s.heap H locs → lv_has ls 14 [(0, .ref (G.2.2 0 0)), (1, .int x1), (2, .int x2), (3, .int x3), (4, .int x4), (5, .int x5), (6, .int x6), (7, .int x7), (8, .int x8), (9, .int x9)] → j_X9_tryAll_153 kb k159 S x1 x2 x3 x4 x5 x6 x7 x8 x9 = some out → W p l e rm_X9_tryAll s m args below meth c H locs 0 0 (MQ below (QV shM idsM G A out) args s 0 0 A) (F0 m 153 ls []) := by
  intro S x1 x2 x3 x4 x5 x6 x7 x8 x9 H locs ls hW hS hl h
  unfold j_X9_tryAll_153 at h
  obtain ⟨v_15, ev_15⟩ : ∃ y : Int32, y = x9 + 1 := ⟨_, rfl⟩
  have h := lt_n ev_15 h
  refine lv_iinc (v := v_15) (lv' := [(9, .int v_15), (0, .ref (G.2.2 0 0)), (1, .int x1), (2, .int x2), (3, .int x3), (4, .int x4), (5, .int x5), (6, .int x6), (7, .int x7), (8, .int x8)]) F.1 F.2.1 dX9_tryAll_153 hl (k := 9) rfl (by rw [ev_15]; rfl) (by decide) rfl (fun ls hl => ?_)
  refine lv_goto (tgt := 44) F.1 F.2.1 dX9_tryAll_156 (by decide) ?_
  exact Kb _ _ _ _ _ _ _ _ _ _ _ _ _  hW hS (lv_sub hl [1, 2, 3, 4, 5, 6, 7, 8, 9, 0] rfl) h
set_option maxHeartbeats 4000000 in
set_option maxRecDepth 100000 in
theorem w_X9_tryAll_151 {p : Program} {l : Launch} {e : Env} {s : State} {m : MethodId} {args : Array Value} {below : List Frame} {meth : Method} {c : Code} {G : GT} {A : Nat → Prop} (F : CallFix p m c cX9_tryAll 14 s args wsX9_tryAll RX9) (hr : meth.sig.returnType = none) (hlk : meth.locks = false) (hK : va_K G.1 vwCl (tyl G) s) (out : St) (kb : St → Int32 → Int32 → Int32 → Int32 → Int32 → Int32 → Int32 → Int32 → Int32 → Option (St)) (k159 : St → Int32 → Int32 → Int32 → Int32 → Int32 → Int32 → Int32 → Int32 → Option (St)) (Kb : ∀ (S : St) (x1 : Int32) (x2 : Int32) (x3 : Int32) (x4 : Int32) (x5 : Int32) (x6 : Int32) (x7 : Int32) (x8 : Int32) (x9 : Int32) (H : Heap) (locs : List Loc) (ls : Array Slot), Wd shM idsM G A S H → va_S A s.heap H locs → lv_has ls 14 [(0, .ref (G.2.2 0 0)), (1, .int x1), (2, .int x2), (3, .int x3), (4, .int x4), (5, .int x5), (6, .int x6), (7, .int x7), (8, .int x8), (9, .int x9)] → kb S x1 x2 x3 x4 x5 x6 x7 x8 x9 = some out → W p l e rm_X9_tryAll s m args below meth c H locs 0 0 (MQ below (QV shM idsM G A out) args s 0 0 A) (F0 m 44 ls [])) (K159 : ∀ (S : St) (x1 : Int32) (x2 : Int32) (x3 : Int32) (x4 : Int32) (x5 : Int32) (x6 : Int32) (x7 : Int32) (x8 : Int32) (H : Heap) (locs : List Loc) (ls : Array Slot), Wd shM idsM G A S H → va_S A s.heap H locs → lv_has ls 14 [(0, .ref (G.2.2 0 0)), (1, .int x1), (2, .int x2), (3, .int x3), (4, .int x4), (5, .int x5), (6, .int x6), (7, .int x7), (8, .int x8)] → k159 S x1 x2 x3 x4 x5 x6 x7 x8 = some out → W p l e rm_X9_tryAll s m args below meth c H locs 0 0 (MQ below (QV shM idsM G A out) args s 0 0 A) (F0 m 159 ls [])) : ∀ (S : St) (x1 : Int32) (x2 : Int32) (x3 : Int32) (x4 : Int32) (x5 : Int32) (x6 : Int32) (x7 : Int32) (x9 : Int32) (y0 : Int32) (H : Heap) (locs : List Loc) (ls : Array Slot), Wd shM idsM G A S H → va_S A s.heap H locs → lv_has ls 14 [(0, .ref (G.2.2 0 0)), (1, .int x1), (2, .int x2), (3, .int x3), (4, .int x4), (5, .int x5), (6, .int x6), (7, .int x7), (9, .int x9)] → j_X9_tryAll_151 kb k159 S x1 x2 x3 x4 x5 x6 x7 x9 y0 = some out → W p l e rm_X9_tryAll s m args below meth c H locs 0 0 (MQ below (QV shM idsM G A out) args s 0 0 A) (F0 m 151 ls [.int y0]) := by
  intro S x1 x2 x3 x4 x5 x6 x7 x9 y0 H locs ls hW hS hl h
  unfold j_X9_tryAll_151 at h
  refine lv_istore (lv' := [(8, .int y0), (0, .ref (G.2.2 0 0)), (1, .int x1), (2, .int x2), (3, .int x3), (4, .int x4), (5, .int x5), (6, .int x6), (7, .int x7), (9, .int x9)]) F.1 F.2.1 dX9_tryAll_151 hl (by decide) rfl (fun ls hl => ?_)
  exact w_X9_tryAll_153 F hr hlk hK out kb k159 Kb K159 _ _ _ _ _ _ _ _ _ _ _ _ _  hW hS (lv_sub hl [1, 2, 3, 4, 5, 6, 7, 8, 0, 9] rfl) h
set_option maxHeartbeats 4000000 in
set_option maxRecDepth 100000 in
theorem w_X9_tryAll_124 {p : Program} {l : Launch} {e : Env} {s : State} {m : MethodId} {args : Array Value} {below : List Frame} {meth : Method} {c : Code} {G : GT} {A : Nat → Prop} (F : CallFix p m c cX9_tryAll 14 s args wsX9_tryAll RX9) (hr : meth.sig.returnType = none) (hlk : meth.locks = false) (hK : va_K G.1 vwCl (tyl G) s) (out : St) (kb : St → Int32 → Int32 → Int32 → Int32 → Int32 → Int32 → Int32 → Int32 → Int32 → Option (St)) (k159 : St → Int32 → Int32 → Int32 → Int32 → Int32 → Int32 → Int32 → Int32 → Option (St)) (Kb : ∀ (S : St) (x1 : Int32) (x2 : Int32) (x3 : Int32) (x4 : Int32) (x5 : Int32) (x6 : Int32) (x7 : Int32) (x8 : Int32) (x9 : Int32) (H : Heap) (locs : List Loc) (ls : Array Slot), Wd shM idsM G A S H → va_S A s.heap H locs → lv_has ls 14 [(0, .ref (G.2.2 0 0)), (1, .int x1), (2, .int x2), (3, .int x3), (4, .int x4), (5, .int x5), (6, .int x6), (7, .int x7), (8, .int x8), (9, .int x9)] → kb S x1 x2 x3 x4 x5 x6 x7 x8 x9 = some out → W p l e rm_X9_tryAll s m args below meth c H locs 0 0 (MQ below (QV shM idsM G A out) args s 0 0 A) (F0 m 44 ls [])) (K159 : ∀ (S : St) (x1 : Int32) (x2 : Int32) (x3 : Int32) (x4 : Int32) (x5 : Int32) (x6 : Int32) (x7 : Int32) (x8 : Int32) (H : Heap) (locs : List Loc) (ls : Array Slot), Wd shM idsM G A S H → va_S A s.heap H locs → lv_has ls 14 [(0, .ref (G.2.2 0 0)), (1, .int x1), (2, .int x2), (3, .int x3), (4, .int x4), (5, .int x5), (6, .int x6), (7, .int x7), (8, .int x8)] → k159 S x1 x2 x3 x4 x5 x6 x7 x8 = some out → W p l e rm_X9_tryAll s m args below meth c H locs 0 0 (MQ below (QV shM idsM G A out) args s 0 0 A) (F0 m 159 ls [])) : ∀ (S : St) (x1 : Int32) (x2 : Int32) (x3 : Int32) (x4 : Int32) (x5 : Int32) (x6 : Int32) (x8 : Int32) (x9 : Int32) (x10 : Int32) (y0 : Int32) (y1 : Int32) (H : Heap) (locs : List Loc) (ls : Array Slot), Wd shM idsM G A S H → va_S A s.heap H locs → lv_has ls 14 [(0, .ref (G.2.2 0 0)), (1, .int x1), (2, .int x2), (3, .int x3), (4, .int x4), (5, .int x5), (6, .int x6), (8, .int x8), (9, .int x9), (10, .int x10)] → j_X9_tryAll_124 kb k159 S x1 x2 x3 x4 x5 x6 x8 x9 x10 y0 y1 = some out → W p l e rm_X9_tryAll s m args below meth c H locs 0 0 (MQ below (QV shM idsM G A out) args s 0 0 A) (F0 m 124 ls [.int y1, .int y0]) := by
  intro S x1 x2 x3 x4 x5 x6 x8 x9 x10 y0 y1 H locs ls hW hS hl h
  unfold j_X9_tryAll_124 at h
  refine lv_iadd F.1 F.2.1 dX9_tryAll_124 ?_
  refine lv_topi (fun v_27 ev_27 => ?_)
  have h := lt_n ev_27 h
  refine lv_istore (lv' := [(7, .int v_27), (0, .ref (G.2.2 0 0)), (1, .int x1), (2, .int x2), (3, .int x3), (4, .int x4), (5, .int x5), (6, .int x6), (8, .int x8), (9, .int x9), (10, .int x10)]) F.1 F.2.1 dX9_tryAll_125 hl (by decide) rfl (fun ls hl => ?_)
  refine lv_aload_n F.1 F.2.1 dX9_tryAll_127 rfl (lv_at hl 1 rfl) ?_
  refine rw_get (q0 := 0) F hK hW idM_0 rfl rfl in_X9_tryAll_X9 43 (by decide) lk_X9_tryAll_104 rfl dX9_tryAll_128 ?_
  refine lv_iload F.1 F.2.1 dX9_tryAll_131 (lv_at hl 10 rfl) ?_
  obtain ⟨b_28, h⟩ := gd_some h
  refine rw_iald (q0 := 32) F hK hW idM_32 (fun _ => rfl) (ix_in b_28) dX9_tryAll_133 ?_
  refine lv_topi (fun v_29 ev_29 => ?_)
  have h := lt_n ev_29 h
  refine lv_iload F.1 F.2.1 dX9_tryAll_134 (lv_at hl 8 rfl) ?_
  refine lv_icmp_le (tgt := 149) F.1 F.2.1 dX9_tryAll_136 (by decide) (fun c_30 => ?_) (fun c_30 => ?_)
  · have h := (if_pos c_30).symm.trans h
    refine lv_iload F.1 F.2.1 dX9_tryAll_149 (lv_at hl 8 rfl) ?_
    exact w_X9_tryAll_151 F hr hlk hK out kb k159 Kb K159 _ _ _ _ _ _ _ _ _ _ _ _ _  hW hS (lv_sub hl [1, 2, 3, 4, 5, 6, 7, 0, 9] rfl) h
  · have h := (if_neg c_30).symm.trans h
    refine lv_aload_n F.1 F.2.1 dX9_tryAll_139 rfl (lv_at hl 1 rfl) ?_
    refine rw_get (q0 := 0) F hK hW idM_0 rfl rfl in_X9_tryAll_X9 43 (by decide) lk_X9_tryAll_104 rfl dX9_tryAll_140 ?_
    refine lv_iload F.1 F.2.1 dX9_tryAll_143 (lv_at hl 10 rfl) ?_
    obtain ⟨b_31, h⟩ := gd_some h
    refine rw_iald (q0 := 32) F hK hW idM_32 (fun _ => rfl) (ix_in b_31) dX9_tryAll_145 ?_
    refine lv_topi (fun v_32 ev_32 => ?_)
    have h := lt_n ev_32 h
    refine lv_goto (tgt := 151) F.1 F.2.1 dX9_tryAll_146 (by decide) ?_
    exact w_X9_tryAll_151 F hr hlk hK out kb k159 Kb K159 _ _ _ _ _ _ _ _ _ _ _ _ _  hW hS (lv_sub hl [1, 2, 3, 4, 5, 6, 7, 0, 9] rfl) h
set_option maxHeartbeats 4000000 in
set_option maxRecDepth 100000 in
theorem w_X9_tryAll_94 {p : Program} {l : Launch} {e : Env} {s : State} {m : MethodId} {args : Array Value} {below : List Frame} {meth : Method} {c : Code} {G : GT} {A : Nat → Prop} (F : CallFix p m c cX9_tryAll 14 s args wsX9_tryAll RX9) (hr : meth.sig.returnType = none) (hlk : meth.locks = false) (hK : va_K G.1 vwCl (tyl G) s) (out : St) (kb : St → Int32 → Int32 → Int32 → Int32 → Int32 → Int32 → Int32 → Int32 → Int32 → Option (St)) (k159 : St → Int32 → Int32 → Int32 → Int32 → Int32 → Int32 → Int32 → Int32 → Option (St)) (Kb : ∀ (S : St) (x1 : Int32) (x2 : Int32) (x3 : Int32) (x4 : Int32) (x5 : Int32) (x6 : Int32) (x7 : Int32) (x8 : Int32) (x9 : Int32) (H : Heap) (locs : List Loc) (ls : Array Slot), Wd shM idsM G A S H → va_S A s.heap H locs → lv_has ls 14 [(0, .ref (G.2.2 0 0)), (1, .int x1), (2, .int x2), (3, .int x3), (4, .int x4), (5, .int x5), (6, .int x6), (7, .int x7), (8, .int x8), (9, .int x9)] → kb S x1 x2 x3 x4 x5 x6 x7 x8 x9 = some out → W p l e rm_X9_tryAll s m args below meth c H locs 0 0 (MQ below (QV shM idsM G A out) args s 0 0 A) (F0 m 44 ls [])) (K159 : ∀ (S : St) (x1 : Int32) (x2 : Int32) (x3 : Int32) (x4 : Int32) (x5 : Int32) (x6 : Int32) (x7 : Int32) (x8 : Int32) (H : Heap) (locs : List Loc) (ls : Array Slot), Wd shM idsM G A S H → va_S A s.heap H locs → lv_has ls 14 [(0, .ref (G.2.2 0 0)), (1, .int x1), (2, .int x2), (3, .int x3), (4, .int x4), (5, .int x5), (6, .int x6), (7, .int x7), (8, .int x8)] → k159 S x1 x2 x3 x4 x5 x6 x7 x8 = some out → W p l e rm_X9_tryAll s m args below meth c H locs 0 0 (MQ below (QV shM idsM G A out) args s 0 0 A) (F0 m 159 ls [])) : ∀ (S : St) (x1 : Int32) (x2 : Int32) (x3 : Int32) (x4 : Int32) (x5 : Int32) (x7 : Int32) (x8 : Int32) (x9 : Int32) (x10 : Int32) (y0 : Int32) (H : Heap) (locs : List Loc) (ls : Array Slot), Wd shM idsM G A S H → va_S A s.heap H locs → lv_has ls 14 [(0, .ref (G.2.2 0 0)), (1, .int x1), (2, .int x2), (3, .int x3), (4, .int x4), (5, .int x5), (7, .int x7), (8, .int x8), (9, .int x9), (10, .int x10)] → j_X9_tryAll_94 kb k159 S x1 x2 x3 x4 x5 x7 x8 x9 x10 y0 = some out → W p l e rm_X9_tryAll s m args below meth c H locs 0 0 (MQ below (QV shM idsM G A out) args s 0 0 A) (F0 m 94 ls [.int y0]) := by
  intro S x1 x2 x3 x4 x5 x7 x8 x9 x10 y0 H locs ls hW hS hl h
  unfold j_X9_tryAll_94 at h
  refine lv_istore (lv' := [(6, .int y0), (0, .ref (G.2.2 0 0)), (1, .int x1), (2, .int x2), (3, .int x3), (4, .int x4), (5, .int x5), (7, .int x7), (8, .int x8), (9, .int x9), (10, .int x10)]) F.1 F.2.1 dX9_tryAll_94 hl (by decide) rfl (fun ls hl => ?_)
  refine lv_iload F.1 F.2.1 dX9_tryAll_96 (lv_at hl 7 rfl) ?_
  refine lv_aload_n F.1 F.2.1 dX9_tryAll_98 rfl (lv_at hl 1 rfl) ?_
  refine rw_get (q0 := 0) F hK hW idM_0 rfl rfl in_X9_tryAll_X9 18 (by decide) lk_X9_tryAll_50 rfl dX9_tryAll_99 ?_
  refine lv_aload_n F.1 F.2.1 dX9_tryAll_102 rfl (lv_at hl 1 rfl) ?_
  refine rw_get (q0 := 0) F hK hW idM_0 rfl rfl in_X9_tryAll_X9 39 (by decide) lk_X9_tryAll_95 rfl dX9_tryAll_103 ?_
  refine lv_iload F.1 F.2.1 dX9_tryAll_106 (lv_at hl 9 rfl) ?_
  obtain ⟨b_20, h⟩ := gd_some h
  refine rw_iald (q0 := 29) F hK hW idM_29 (fun _ => rfl) (ix_in b_20) dX9_tryAll_108 ?_
  refine lv_topi (fun v_21 ev_21 => ?_)
  have h := lt_n ev_21 h
  obtain ⟨b_22, h⟩ := gd_some h
  refine rw_zald (q0 := 14) F hK hW idM_14 (fun _ => rfl) (ix_in b_22) dX9_tryAll_109 ?_
  refine lv_topi (fun v_23 ev_23 => ?_)
  have h := lt_n ev_23 h
  refine lv_if_eq (tgt := 117) F.1 F.2.1 dX9_tryAll_110 (by decide) (fun c_24 => ?_) (fun c_24 => ?_)
  · have h := (if_pos c_24).symm.trans h
    refine lv_aload_n F.1 F.2.1 dX9_tryAll_117 rfl (lv_at hl 1 rfl) ?_
    refine rw_get (q0 := 0) F hK hW idM_0 rfl rfl in_X9_tryAll_X9 42 (by decide) lk_X9_tryAll_101 rfl dX9_tryAll_118 ?_
    refine lv_iload F.1 F.2.1 dX9_tryAll_121 (lv_at hl 10 rfl) ?_
    obtain ⟨b_25, h⟩ := gd_some h
    refine rw_iald (q0 := 31) F hK hW idM_31 (fun _ => rfl) (ix_in b_25) dX9_tryAll_123 ?_
    refine lv_topi (fun v_26 ev_26 => ?_)
    have h := lt_n ev_26 h
    exact w_X9_tryAll_124 F hr hlk hK out kb k159 Kb K159 _ _ _ _ _ _ _ _ _ _ _ _ _ _ _  hW hS (lv_sub hl [1, 2, 3, 4, 5, 6, 0, 8, 9, 10] rfl) h
  · have h := (if_neg c_24).symm.trans h
    refine lv_iconst (v := 0) F.1 F.2.1 dX9_tryAll_113 (by decide) ?_
    refine lv_goto (tgt := 124) F.1 F.2.1 dX9_tryAll_114 (by decide) ?_
    exact w_X9_tryAll_124 F hr hlk hK out kb k159 Kb K159 _ _ _ _ _ _ _ _ _ _ _ _ _ _ _  hW hS (lv_sub hl [1, 2, 3, 4, 5, 6, 0, 8, 9, 10] rfl) h
set_option maxHeartbeats 4000000 in
set_option maxRecDepth 100000 in
theorem w_X9_tryAll_93 {p : Program} {l : Launch} {e : Env} {s : State} {m : MethodId} {args : Array Value} {below : List Frame} {meth : Method} {c : Code} {G : GT} {A : Nat → Prop} (F : CallFix p m c cX9_tryAll 14 s args wsX9_tryAll RX9) (hr : meth.sig.returnType = none) (hlk : meth.locks = false) (hK : va_K G.1 vwCl (tyl G) s) (out : St) (kb : St → Int32 → Int32 → Int32 → Int32 → Int32 → Int32 → Int32 → Int32 → Int32 → Option (St)) (k159 : St → Int32 → Int32 → Int32 → Int32 → Int32 → Int32 → Int32 → Int32 → Option (St)) (Kb : ∀ (S : St) (x1 : Int32) (x2 : Int32) (x3 : Int32) (x4 : Int32) (x5 : Int32) (x6 : Int32) (x7 : Int32) (x8 : Int32) (x9 : Int32) (H : Heap) (locs : List Loc) (ls : Array Slot), Wd shM idsM G A S H → va_S A s.heap H locs → lv_has ls 14 [(0, .ref (G.2.2 0 0)), (1, .int x1), (2, .int x2), (3, .int x3), (4, .int x4), (5, .int x5), (6, .int x6), (7, .int x7), (8, .int x8), (9, .int x9)] → kb S x1 x2 x3 x4 x5 x6 x7 x8 x9 = some out → W p l e rm_X9_tryAll s m args below meth c H locs 0 0 (MQ below (QV shM idsM G A out) args s 0 0 A) (F0 m 44 ls [])) (K159 : ∀ (S : St) (x1 : Int32) (x2 : Int32) (x3 : Int32) (x4 : Int32) (x5 : Int32) (x6 : Int32) (x7 : Int32) (x8 : Int32) (H : Heap) (locs : List Loc) (ls : Array Slot), Wd shM idsM G A S H → va_S A s.heap H locs → lv_has ls 14 [(0, .ref (G.2.2 0 0)), (1, .int x1), (2, .int x2), (3, .int x3), (4, .int x4), (5, .int x5), (6, .int x6), (7, .int x7), (8, .int x8)] → k159 S x1 x2 x3 x4 x5 x6 x7 x8 = some out → W p l e rm_X9_tryAll s m args below meth c H locs 0 0 (MQ below (QV shM idsM G A out) args s 0 0 A) (F0 m 159 ls [])) : ∀ (S : St) (x1 : Int32) (x2 : Int32) (x3 : Int32) (x4 : Int32) (x5 : Int32) (x7 : Int32) (x8 : Int32) (x9 : Int32) (x10 : Int32) (H : Heap) (locs : List Loc) (ls : Array Slot), Wd shM idsM G A S H → va_S A s.heap H locs → lv_has ls 14 [(0, .ref (G.2.2 0 0)), (1, .int x1), (2, .int x2), (3, .int x3), (4, .int x4), (5, .int x5), (7, .int x7), (8, .int x8), (9, .int x9), (10, .int x10)] → j_X9_tryAll_93 kb k159 S x1 x2 x3 x4 x5 x7 x8 x9 x10 = some out → W p l e rm_X9_tryAll s m args below meth c H locs 0 0 (MQ below (QV shM idsM G A out) args s 0 0 A) (F0 m 93 ls []) := by
  intro S x1 x2 x3 x4 x5 x7 x8 x9 x10 H locs ls hW hS hl h
  unfold j_X9_tryAll_93 at h
  refine lv_iconst (v := 0) F.1 F.2.1 dX9_tryAll_93 (by decide) ?_
  exact w_X9_tryAll_94 F hr hlk hK out kb k159 Kb K159 _ _ _ _ _ _ _ _ _ _ _ _ _ _  hW hS hl h
set_option maxHeartbeats 4000000 in
set_option maxRecDepth 100000 in
theorem w_X9_tryAll_44 {p : Program} {l : Launch} {e : Env} {s : State} {m : MethodId} {args : Array Value} {below : List Frame} {meth : Method} {c : Code} {G : GT} {A : Nat → Prop} (F : CallFix p m c cX9_tryAll 14 s args wsX9_tryAll RX9) (hr : meth.sig.returnType = none) (hlk : meth.locks = false) (hK : va_K G.1 vwCl (tyl G) s) (out : St) (k159 : St → Int32 → Int32 → Int32 → Int32 → Int32 → Int32 → Int32 → Int32 → Option (St)) (K159 : ∀ (S : St) (x1 : Int32) (x2 : Int32) (x3 : Int32) (x4 : Int32) (x5 : Int32) (x6 : Int32) (x7 : Int32) (x8 : Int32) (H : Heap) (locs : List Loc) (ls : Array Slot), Wd shM idsM G A S H → va_S A s.heap H locs → lv_has ls 14 [(0, .ref (G.2.2 0 0)), (1, .int x1), (2, .int x2), (3, .int x3), (4, .int x4), (5, .int x5), (6, .int x6), (7, .int x7), (8, .int x8)] → k159 S x1 x2 x3 x4 x5 x6 x7 x8 = some out → W p l e rm_X9_tryAll s m args below meth c H locs 0 0 (MQ below (QV shM idsM G A out) args s 0 0 A) (F0 m 159 ls [])) : ∀ n : Nat, ∀ (S : St) (x1 : Int32) (x2 : Int32) (x3 : Int32) (x4 : Int32) (x5 : Int32) (x6 : Int32) (x7 : Int32) (x8 : Int32) (x9 : Int32) (H : Heap) (locs : List Loc) (ls : Array Slot), Wd shM idsM G A S H → va_S A s.heap H locs → lv_has ls 14 [(0, .ref (G.2.2 0 0)), (1, .int x1), (2, .int x2), (3, .int x3), (4, .int x4), (5, .int x5), (6, .int x6), (7, .int x7), (8, .int x8), (9, .int x9)] → l_X9_tryAll_44 k159 n S x1 x2 x3 x4 x5 x6 x7 x8 x9 = some out → W p l e rm_X9_tryAll s m args below meth c H locs 0 0 (MQ below (QV shM idsM G A out) args s 0 0 A) (F0 m 44 ls []) := by
  intro n
  induction n with
  | zero =>
    intro S x1 x2 x3 x4 x5 x6 x7 x8 x9 H locs ls hW hS hl h
    cases h
  | succ n Kb =>
    generalize hkb : l_X9_tryAll_44 k159 n = kb at Kb
    intro S x1 x2 x3 x4 x5 x6 x7 x8 x9 H locs ls hW hS hl h
    rw [show l_X9_tryAll_44 k159 (n + 1) = b_X9_tryAll_44 (l_X9_tryAll_44 k159 n) k159 from rfl, hkb] at h
    unfold b_X9_tryAll_44 at h
    refine lv_iload F.1 F.2.1 dX9_tryAll_44 (lv_at hl 9 rfl) ?_
    refine lv_bipush (v := 6) F.1 F.2.1 dX9_tryAll_46 (by decide) ?_
    refine lv_icmp_ge (tgt := 159) F.1 F.2.1 dX9_tryAll_48 (by decide) (fun c_11 => ?_) (fun c_11 => ?_)
    · have h := (if_pos c_11).symm.trans h
      exact K159 _ _ _ _ _ _ _ _ _ _ _ _  hW hS (lv_sub hl [0, 1, 2, 3, 4, 5, 6, 7, 8] rfl) h
    · have h := (if_neg c_11).symm.trans h
      refine lv_aload_n F.1 F.2.1 dX9_tryAll_51 rfl (lv_at hl 0 rfl) ?_
      refine rw_get (q0 := 0) F hK hW idM_0 rfl rfl in_X9_tryAll_X9 39 (by decide) lk_X9_tryAll_95 rfl dX9_tryAll_52 ?_
      refine lv_iload F.1 F.2.1 dX9_tryAll_55 (lv_at hl 9 rfl) ?_
      obtain ⟨b_12, h⟩ := gd_some h
      refine rw_iald (q0 := 29) F hK hW idM_29 (fun _ => rfl) (ix_in b_12) dX9_tryAll_57 ?_
      refine lv_topi (fun v_13 ev_13 => ?_)
      have h := lt_n ev_13 h
      refine lv_bipush (v := -4) F.1 F.2.1 dX9_tryAll_58 (by decide) ?_
      refine lv_icmp_eq (tgt := 153) F.1 F.2.1 dX9_tryAll_60 (by decide) (fun c_14 => ?_) (fun c_14 => ?_)
      · have h := (if_pos c_14).symm.trans h
        exact w_X9_tryAll_153 F hr hlk hK out kb k159 Kb K159 _ _ _ _ _ _ _ _ _ _ _ _ _  hW hS hl h
      · have h := (if_neg c_14).symm.trans h
        refine lv_iload_n F.1 F.2.1 dX9_tryAll_63 rfl (lv_at hl 1 rfl) ?_
        refine lv_aload_n F.1 F.2.1 dX9_tryAll_64 rfl (lv_at hl 0 rfl) ?_
        refine rw_get (q0 := 0) F hK hW idM_0 rfl rfl in_X9_tryAll_X9 39 (by decide) lk_X9_tryAll_95 rfl dX9_tryAll_65 ?_
        refine lv_iload F.1 F.2.1 dX9_tryAll_68 (lv_at hl 9 rfl) ?_
        obtain ⟨b_16, h⟩ := gd_some h
        refine rw_iald (q0 := 29) F hK hW idM_29 (fun _ => rfl) (ix_in b_16) dX9_tryAll_70 ?_
        refine lv_topi (fun v_17 ev_17 => ?_)
        have h := lt_n ev_17 h
        refine lv_iadd F.1 F.2.1 dX9_tryAll_71 ?_
        refine lv_topi (fun v_18 ev_18 => ?_)
        have h := lt_n ev_18 h
        refine lv_istore (lv' := [(10, .int v_18), (0, .ref (G.2.2 0 0)), (1, .int x1), (2, .int x2), (3, .int x3), (4, .int x4), (5, .int x5), (6, .int x6), (7, .int x7), (8, .int x8), (9, .int x9)]) F.1 F.2.1 dX9_tryAll_72 hl (by decide) rfl (fun ls hl => ?_)
        refine lv_iload F.1 F.2.1 dX9_tryAll_74 (lv_at hl 7 rfl) ?_
        refine lv_if_eq (tgt := 93) F.1 F.2.1 dX9_tryAll_76 (by decide) (fun c_19 => ?_) (fun c_19 => ?_)
        · have h := (if_pos c_19).symm.trans h
          exact w_X9_tryAll_93 F hr hlk hK out kb k159 Kb K159 _ _ _ _ _ _ _ _ _ _ _ _ _  hW hS (lv_sub hl [1, 2, 3, 4, 5, 6, 8, 9, 10, 0] rfl) h
        · have h := (if_neg c_19).symm.trans h
          refine lv_aload_n F.1 F.2.1 dX9_tryAll_79 rfl (lv_at hl 1 rfl) ?_
          refine rw_get (q0 := 0) F hK hW idM_0 rfl rfl in_X9_tryAll_X9 41 (by decide) lk_X9_tryAll_98 rfl dX9_tryAll_80 ?_
          refine lv_iload F.1 F.2.1 dX9_tryAll_83 (lv_at hl 0 rfl) ?_
          obtain ⟨b_33, h⟩ := gd_some h
          refine rw_zald (q0 := 30) F hK hW idM_30 (fun _ => rfl) (ix_in b_33) dX9_tryAll_85 ?_
          refine lv_topi (fun v_34 ev_34 => ?_)
          have h := lt_n ev_34 h
          refine lv_if_eq (tgt := 93) F.1 F.2.1 dX9_tryAll_86 (by decide) (fun c_35 => ?_) (fun c_35 => ?_)
          · have h := (if_pos c_35).symm.trans h
            exact w_X9_tryAll_93 F hr hlk hK out kb k159 Kb K159 _ _ _ _ _ _ _ _ _ _ _ _ _  hW hS (lv_sub hl [1, 2, 3, 4, 5, 6, 8, 9, 10, 0] rfl) h
          · have h := (if_neg c_35).symm.trans h
            refine lv_iconst (v := 1) F.1 F.2.1 dX9_tryAll_89 (by decide) ?_
            refine lv_goto (tgt := 94) F.1 F.2.1 dX9_tryAll_90 (by decide) ?_
            exact w_X9_tryAll_94 F hr hlk hK out kb k159 Kb K159 _ _ _ _ _ _ _ _ _ _ _ _ _ _  hW hS (lv_sub hl [1, 2, 3, 4, 5, 6, 8, 9, 10, 0] rfl) h
set_option maxHeartbeats 4000000 in
set_option maxRecDepth 100000 in
theorem w_X9_tryAll_328 {p : Program} {l : Launch} {e : Env} {s : State} {m : MethodId} {args : Array Value} {below : List Frame} {meth : Method} {c : Code} {G : GT} {A : Nat → Prop} (F : CallFix p m c cX9_tryAll 14 s args wsX9_tryAll RX9) (hr : meth.sig.returnType = none) (hlk : meth.locks = false) (hK : va_K G.1 vwCl (tyl G) s) (out : St) (k362 : St → Int32 → Int32 → Int32 → Int32 → Int32 → Option (St)) (K362 : ∀ (S : St) (x1 : Int32) (x2 : Int32) (x3 : Int32) (x4 : Int32) (x5 : Int32) (H : Heap) (locs : List Loc) (ls : Array Slot), Wd shM idsM G A S H → va_S A s.heap H locs → lv_has ls 14 [(0, .ref (G.2.2 0 0)), (1, .int x1), (2, .int x2), (3, .int x3), (4, .int x4), (5, .int x5)] → k362 S x1 x2 x3 x4 x5 = some out → W p l e rm_X9_tryAll s m args below meth c H locs 0 0 (MQ below (QV shM idsM G A out) args s 0 0 A) (F0 m 362 ls [])) : ∀ n : Nat, ∀ (S : St) (x1 : Int32) (x2 : Int32) (x3 : Int32) (x4 : Int32) (x5 : Int32) (x13 : Int32) (H : Heap) (locs : List Loc) (ls : Array Slot), Wd shM idsM G A S H → va_S A s.heap H locs → lv_has ls 14 [(0, .ref (G.2.2 0 0)), (1, .int x1), (2, .int x2), (3, .int x3), (4, .int x4), (5, .int x5), (13, .int x13)] → l_X9_tryAll_328 k362 n S x1 x2 x3 x4 x5 x13 = some out → W p l e rm_X9_tryAll s m args below meth c H locs 0 0 (MQ below (QV shM idsM G A out) args s 0 0 A) (F0 m 328 ls []) := by
  intro n
  induction n with
  | zero =>
    intro S x1 x2 x3 x4 x5 x13 H locs ls hW hS hl h
    cases h
  | succ n Kb =>
    generalize hkb : l_X9_tryAll_328 k362 n = kb at Kb
    intro S x1 x2 x3 x4 x5 x13 H locs ls hW hS hl h
    rw [show l_X9_tryAll_328 k362 (n + 1) = b_X9_tryAll_328 (l_X9_tryAll_328 k362 n) k362 from rfl, hkb] at h
    unfold b_X9_tryAll_328 at h
    refine lv_iload F.1 F.2.1 dX9_tryAll_328 (lv_at hl 6 rfl) ?_
    refine lv_bipush (v := 6) F.1 F.2.1 dX9_tryAll_330 (by decide) ?_
    refine lv_icmp_ge (tgt := 362) F.1 F.2.1 dX9_tryAll_332 (by decide) (fun c_59 => ?_) (fun c_59 => ?_)
    · have h := (if_pos c_59).symm.trans h
      exact K362 _ _ _ _ _ _ _ _ _  hW hS (lv_sub hl [0, 1, 2, 3, 4, 5] rfl) h
    · have h := (if_neg c_59).symm.trans h
      refine lv_aload_n F.1 F.2.1 dX9_tryAll_335 rfl (lv_at hl 0 rfl) ?_
      refine rw_get (q0 := 0) F hK hW idM_0 rfl rfl in_X9_tryAll_X9 45 (by decide) lk_X9_tryAll_110 rfl dX9_tryAll_336 ?_
      refine lv_bipush (v := 6) F.1 F.2.1 dX9_tryAll_339 (by decide) ?_
      refine lv_iload_n F.1 F.2.1 dX9_tryAll_341 rfl (lv_at hl 1 rfl) ?_
      refine lv_iload_n F.1 F.2.1 dX9_tryAll_342 rfl (lv_at hl 2 rfl) ?_
      refine lv_iadd F.1 F.2.1 dX9_tryAll_343 ?_
      refine lv_imul F.1 F.2.1 dX9_tryAll_344 ?_
      refine lv_iload F.1 F.2.1 dX9_tryAll_345 (lv_at hl 6 rfl) ?_
      refine lv_iadd F.1 F.2.1 dX9_tryAll_347 ?_
      refine lv_aload_n F.1 F.2.1 dX9_tryAll_348 rfl (lv_at hl 0 rfl) ?_
      refine rw_get (q0 := 0) F hK hW idM_0 rfl rfl in_X9_tryAll_X9 39 (by decide) lk_X9_tryAll_95 rfl dX9_tryAll_349 ?_
      refine lv_iload F.1 F.2.1 dX9_tryAll_352 (lv_at hl 6 rfl) ?_
      obtain ⟨b_60, h⟩ := gd_some h
      refine rw_iald (q0 := 29) F hK hW idM_29 (fun _ => rfl) (ix_in b_60) dX9_tryAll_354 ?_
      refine lv_topi (fun v_61 ev_61 => ?_)
      have h := lt_n ev_61 h
      obtain ⟨b_62, h⟩ := gd_some h
      refine rw_iast ndM (q0 := 34) F hK hW hS idM_34 (fun _ => rfl) (ix_in b_62) dX9_tryAll_355 (fun H locs S_63 eS_63 hW hS => ?_)
      have h := lt_n eS_63 h
      obtain ⟨v_64, ev_64⟩ : ∃ y : Int32, y = x13 + 1 := ⟨_, rfl⟩
      have h := lt_n ev_64 h
      refine lv_iinc (v := v_64) (lv' := [(13, .int v_64), (0, .ref (G.2.2 0 0)), (1, .int x1), (2, .int x2), (3, .int x3), (4, .int x4), (5, .int x5)]) F.1 F.2.1 dX9_tryAll_356 hl (k := 6) rfl (by rw [ev_64]; rfl) (by decide) rfl (fun ls hl => ?_)
      refine lv_goto (tgt := 328) F.1 F.2.1 dX9_tryAll_359 (by decide) ?_
      exact Kb _ _ _ _ _ _ _ _ _ _  hW hS (lv_sub hl [1, 2, 3, 4, 5, 6, 0] rfl) h
set_option maxHeartbeats 4000000 in
set_option maxRecDepth 100000 in
theorem w_X9_tryAll_287 {p : Program} {l : Launch} {e : Env} {s : State} {m : MethodId} {args : Array Value} {below : List Frame} {meth : Method} {c : Code} {G : GT} {A : Nat → Prop} (F : CallFix p m c cX9_tryAll 14 s args wsX9_tryAll RX9) (hr : meth.sig.returnType = none) (hlk : meth.locks = false) (hK : va_K G.1 vwCl (tyl G) s) (out : St) (kb : St → Int32 → Int32 → Int32 → Int32 → Int32 → Option (St)) (Kb : ∀ (S : St) (x1 : Int32) (x2 : Int32) (x3 : Int32) (x4 : Int32) (x5 : Int32) (H : Heap) (locs : List Loc) (ls : Array Slot), Wd shM idsM G A S H → va_S A s.heap H locs → lv_has ls 14 [(0, .ref (G.2.2 0 0)), (1, .int x1), (2, .int x2), (3, .int x3), (4, .int x4), (5, .int x5)] → kb S x1 x2 x3 x4 x5 = some out → W p l e rm_X9_tryAll s m args below meth c H locs 0 0 (MQ below (QV shM idsM G A out) args s 0 0 A) (F0 m 3 ls [])) : ∀ (S : St) (x1 : Int32) (x2 : Int32) (x3 : Int32) (x4 : Int32) (x5 : Int32) (x7 : Int32) (x8 : Int32) (H : Heap) (locs : List Loc) (ls : Array Slot), Wd shM idsM G A S H → va_S A s.heap H locs → lv_has ls 14 [(0, .ref (G.2.2 0 0)), (1, .int x1), (2, .int x2), (3, .int x3), (4, .int x4), (5, .int x5), (7, .int x7), (8, .int x8)] → j_X9_tryAll_287 kb S x1 x2 x3 x4 x5 x7 x8 = some out → W p l e rm_X9_tryAll s m args below meth c H locs 0 0 (MQ below (QV shM idsM G A out) args s 0 0 A) (F0 m 287 ls []) := by
  intro S x1 x2 x3 x4 x5 x7 x8 H locs ls hW hS hl h
  unfold j_X9_tryAll_287 at h
  refine lv_aload_n F.1 F.2.1 dX9_tryAll_287 rfl (lv_at hl 0 rfl) ?_
  refine rw_get (q0 := 0) F hK hW idM_0 rfl rfl in_X9_tryAll_X9 41 (by decide) lk_X9_tryAll_98 rfl dX9_tryAll_288 ?_
  refine lv_iload_n F.1 F.2.1 dX9_tryAll_291 rfl (lv_at hl 1 rfl) ?_
  refine lv_iload_n F.1 F.2.1 dX9_tryAll_292 rfl (lv_at hl 2 rfl) ?_
  refine lv_iadd F.1 F.2.1 dX9_tryAll_293 ?_
  refine lv_iconst (v := 1) F.1 F.2.1 dX9_tryAll_294 (by decide) ?_
  obtain ⟨b_51, h⟩ := gd_some h
  refine rw_zast ndM (q0 := 30) F hK hW hS idM_30 (fun _ => rfl) (ix_in b_51) dX9_tryAll_295 (fun H locs S_52 eS_52 hW hS => ?_)
  have h := lt_n eS_52 h
  refine lv_aload_n F.1 F.2.1 dX9_tryAll_296 rfl (lv_at hl 0 rfl) ?_
  refine rw_get (q0 := 0) F hK hW idM_0 rfl rfl in_X9_tryAll_X9 42 (by decide) lk_X9_tryAll_101 rfl dX9_tryAll_297 ?_
  refine lv_iload_n F.1 F.2.1 dX9_tryAll_300 rfl (lv_at hl 1 rfl) ?_
  refine lv_iload_n F.1 F.2.1 dX9_tryAll_301 rfl (lv_at hl 2 rfl) ?_
  refine lv_iadd F.1 F.2.1 dX9_tryAll_302 ?_
  refine lv_iload F.1 F.2.1 dX9_tryAll_303 (lv_at hl 6 rfl) ?_
  obtain ⟨b_53, h⟩ := gd_some h
  refine rw_iast ndM (q0 := 31) F hK hW hS idM_31 (fun _ => rfl) (ix_in b_53) dX9_tryAll_305 (fun H locs S_54 eS_54 hW hS => ?_)
  have h := lt_n eS_54 h
  refine lv_aload_n F.1 F.2.1 dX9_tryAll_306 rfl (lv_at hl 0 rfl) ?_
  refine rw_get (q0 := 0) F hK hW idM_0 rfl rfl in_X9_tryAll_X9 43 (by decide) lk_X9_tryAll_104 rfl dX9_tryAll_307 ?_
  refine lv_iload_n F.1 F.2.1 dX9_tryAll_310 rfl (lv_at hl 1 rfl) ?_
  refine lv_iload_n F.1 F.2.1 dX9_tryAll_311 rfl (lv_at hl 2 rfl) ?_
  refine lv_iadd F.1 F.2.1 dX9_tryAll_312 ?_
  refine lv_iload F.1 F.2.1 dX9_tryAll_313 (lv_at hl 7 rfl) ?_
  obtain ⟨b_55, h⟩ := gd_some h
  refine rw_iast ndM (q0 := 32) F hK hW hS idM_32 (fun _ => rfl) (ix_in b_55) dX9_tryAll_315 (fun H locs S_56 eS_56 hW hS => ?_)
  have h := lt_n eS_56 h
  refine lv_aload_n F.1 F.2.1 dX9_tryAll_316 rfl (lv_at hl 0 rfl) ?_
  refine rw_get (q0 := 0) F hK hW idM_0 rfl rfl in_X9_tryAll_X9 44 (by decide) lk_X9_tryAll_107 rfl dX9_tryAll_317 ?_
  refine lv_iload_n F.1 F.2.1 dX9_tryAll_320 rfl (lv_at hl 1 rfl) ?_
  refine lv_iload_n F.1 F.2.1 dX9_tryAll_321 rfl (lv_at hl 2 rfl) ?_
  refine lv_iadd F.1 F.2.1 dX9_tryAll_322 ?_
  refine lv_iload_n F.1 F.2.1 dX9_tryAll_323 rfl (lv_at hl 3 rfl) ?_
  obtain ⟨b_57, h⟩ := gd_some h
  refine rw_iast ndM (q0 := 33) F hK hW hS idM_33 (fun _ => rfl) (ix_in b_57) dX9_tryAll_324 (fun H locs S_58 eS_58 hW hS => ?_)
  have h := lt_n eS_58 h
  refine lv_iconst (v := 0) F.1 F.2.1 dX9_tryAll_325 (by decide) ?_
  refine lv_istore (lv' := [(13, .int 0), (0, .ref (G.2.2 0 0)), (1, .int x1), (2, .int x2), (3, .int x3), (4, .int x4), (5, .int x5), (7, .int x7), (8, .int x8)]) F.1 F.2.1 dX9_tryAll_326 hl (by decide) rfl (fun ls hl => ?_)
  refine w_X9_tryAll_328 F hr hlk hK out _ ?_ 5000 _ _ _ _ _ _ _ _ _ _  hW hS (lv_sub hl [1, 2, 3, 4, 5, 6, 0] rfl) h
  · intro S x1 x2 x3 x4 x5 H locs ls hW hS hl h
    exact w_X9_tryAll_362 F hr hlk hK out kb Kb _ _ _ _ _ _ _ _ _  hW hS hl h
set_option maxHeartbeats 4000000 in
set_option maxRecDepth 100000 in
theorem w_X9_tryAll_248 {p : Program} {l : Launch} {e : Env} {s : State} {m : MethodId} {args : Array Value} {below : List Frame} {meth : Method} {c : Code} {G : GT} {A : Nat → Prop} (F : CallFix p m c cX9_tryAll 14 s args wsX9_tryAll RX9) (hr : meth.sig.returnType = none) (hlk : meth.locks = false) (hK : va_K G.1 vwCl (tyl G) s) (out : St) (kb : St → Int32 → Int32 → Int32 → Int32 → Int32 → Option (St)) (Kb : ∀ (S : St) (x1 : Int32) (x2 : Int32) (x3 : Int32) (x4 : Int32) (x5 : Int32) (H : Heap) (locs : List Loc) (ls : Array Slot), Wd shM idsM G A S H → va_S A s.heap H locs → lv_has ls 14 [(0, .ref (G.2.2 0 0)), (1, .int x1), (2, .int x2), (3, .int x3), (4, .int x4), (5, .int x5)] → kb S x1 x2 x3 x4 x5 = some out → W p l e rm_X9_tryAll s m args below meth c H locs 0 0 (MQ below (QV shM idsM G A out) args s 0 0 A) (F0 m 3 ls [])) : ∀ (S : St) (x1 : Int32) (x2 : Int32) (x3 : Int32) (x4 : Int32) (x5 : Int32) (x6 : Int32) (x7 : Int32) (x8 : Int32) (x9 : Int32) (x10 : Int32) (x11 : Int32) (y0 : Int32) (H : Heap) (locs : List Loc) (ls : Array Slot), Wd shM idsM G A S H → va_S A s.heap H locs → lv_has ls 14 [(0, .ref (G.2.2 0 0)), (1, .int x1), (2, .int x2), (3, .int x3), (4, .int x4), (5, .int x5), (6, .int x6), (7, .int x7), (8, .int x8), (9, .int x9), (10, .int x10), (11, .int x11)] → j_X9_tryAll_248 kb S x1 x2 x3 x4 x5 x6 x7 x8 x9 x10 x11 y0 = some out → W p l e rm_X9_tryAll s m args below meth c H locs 0 0 (MQ below (QV shM idsM G A out) args s 0 0 A) (F0 m 248 ls [.int y0]) := by
  intro S x1 x2 x3 x4 x5 x6 x7 x8 x9 x10 x11 y0 H locs ls hW hS hl h
  unfold j_X9_tryAll_248 at h
  refine lv_istore (lv' := [(12, .int y0), (0, .ref (G.2.2 0 0)), (1, .int x1), (2, .int x2), (3, .int x3), (4, .int x4), (5, .int x5), (6, .int x6), (7, .int x7), (8, .int x8), (9, .int x9), (10, .int x10), (11, .int x11)]) F.1 F.2.1 dX9_tryAll_248 hl (by decide) rfl (fun ls hl => ?_)
  refine lv_iload F.1 F.2.1 dX9_tryAll_250 (lv_at hl 7 rfl) ?_
  refine lv_if_eq (tgt := 362) F.1 F.2.1 dX9_tryAll_252 (by decide) (fun c_47 => ?_) (fun c_47 => ?_)
  · have h := (if_pos c_47).symm.trans h
    exact w_X9_tryAll_362 F hr hlk hK out kb Kb _ _ _ _ _ _ _ _ _  hW hS (lv_sub hl [1, 2, 3, 4, 5, 6] rfl) h
  · have h := (if_neg c_47).symm.trans h
    refine lv_aload_n F.1 F.2.1 dX9_tryAll_255 rfl (lv_at hl 1 rfl) ?_
    refine rw_get (q0 := 0) F hK hW idM_0 rfl rfl in_X9_tryAll_X9 41 (by decide) lk_X9_tryAll_98 rfl dX9_tryAll_256 ?_
    refine lv_iload_n F.1 F.2.1 dX9_tryAll_259 rfl (lv_at hl 2 rfl) ?_
    refine lv_iload_n F.1 F.2.1 dX9_tryAll_260 rfl (lv_at hl 3 rfl) ?_
    refine lv_iadd F.1 F.2.1 dX9_tryAll_261 ?_
    obtain ⟨b_48, h⟩ := gd_some h
    refine rw_zald (q0 := 30) F hK hW idM_30 (fun _ => rfl) (ix_in b_48) dX9_tryAll_262 ?_
    refine lv_topi (fun v_49 ev_49 => ?_)
    have h := lt_n ev_49 h
    refine lv_if_eq (tgt := 287) F.1 F.2.1 dX9_tryAll_263 (by decide) (fun c_50 => ?_) (fun c_50 => ?_)
    · have h := (if_pos c_50).symm.trans h
      exact w_X9_tryAll_287 F hr hlk hK out kb Kb _ _ _ _ _ _ _ _ _ _ _  hW hS (lv_sub hl [1, 2, 3, 4, 5, 6, 8, 9] rfl) h
    · have h := (if_neg c_50).symm.trans h
      refine lv_iload F.1 F.2.1 dX9_tryAll_266 (lv_at hl 10 rfl) ?_
      refine lv_iload F.1 F.2.1 dX9_tryAll_268 (lv_at hl 12 rfl) ?_
      refine lv_icmp_lt (tgt := 287) F.1 F.2.1 dX9_tryAll_270 (by decide) (fun c_65 => ?_) (fun c_65 => ?_)
      · have h := (if_pos c_65).symm.trans h
        exact w_X9_tryAll_287 F hr hlk hK out kb Kb _ _ _ _ _ _ _ _ _ _ _  hW hS (lv_sub hl [1, 2, 3, 4, 5, 6, 8, 9] rfl) h
      · have h := (if_neg c_65).symm.trans h
        refine lv_iload F.1 F.2.1 dX9_tryAll_273 (lv_at hl 10 rfl) ?_
        refine lv_iload F.1 F.2.1 dX9_tryAll_275 (lv_at hl 12 rfl) ?_
        refine lv_icmp_ne (tgt := 362) F.1 F.2.1 dX9_tryAll_277 (by decide) (fun c_66 => ?_) (fun c_66 => ?_)
        · have h := (if_neg c_66).symm.trans h
          exact w_X9_tryAll_362 F hr hlk hK out kb Kb _ _ _ _ _ _ _ _ _  hW hS (lv_sub hl [1, 2, 3, 4, 5, 6] rfl) h
        · have h := (if_pos c_66).symm.trans h
          refine lv_iload F.1 F.2.1 dX9_tryAll_280 (lv_at hl 11 rfl) ?_
          refine lv_iload F.1 F.2.1 dX9_tryAll_282 (lv_at hl 0 rfl) ?_
          refine lv_icmp_ge (tgt := 362) F.1 F.2.1 dX9_tryAll_284 (by decide) (fun c_67 => ?_) (fun c_67 => ?_)
          · have h := (if_pos c_67).symm.trans h
            exact w_X9_tryAll_362 F hr hlk hK out kb Kb _ _ _ _ _ _ _ _ _  hW hS (lv_sub hl [1, 2, 3, 4, 5, 6] rfl) h
          · have h := (if_neg c_67).symm.trans h
            exact w_X9_tryAll_287 F hr hlk hK out kb Kb _ _ _ _ _ _ _ _ _ _ _  hW hS (lv_sub hl [1, 2, 3, 4, 5, 6, 8, 9] rfl) h
set_option maxHeartbeats 4000000 in
set_option maxRecDepth 100000 in
theorem w_X9_tryAll_222 {p : Program} {l : Launch} {e : Env} {s : State} {m : MethodId} {args : Array Value} {below : List Frame} {meth : Method} {c : Code} {G : GT} {A : Nat → Prop} (F : CallFix p m c cX9_tryAll 14 s args wsX9_tryAll RX9) (hr : meth.sig.returnType = none) (hlk : meth.locks = false) (hK : va_K G.1 vwCl (tyl G) s) (out : St) (kb : St → Int32 → Int32 → Int32 → Int32 → Int32 → Option (St)) (Kb : ∀ (S : St) (x1 : Int32) (x2 : Int32) (x3 : Int32) (x4 : Int32) (x5 : Int32) (H : Heap) (locs : List Loc) (ls : Array Slot), Wd shM idsM G A S H → va_S A s.heap H locs → lv_has ls 14 [(0, .ref (G.2.2 0 0)), (1, .int x1), (2, .int x2), (3, .int x3), (4, .int x4), (5, .int x5)] → kb S x1 x2 x3 x4 x5 = some out → W p l e rm_X9_tryAll s m args below meth c H locs 0 0 (MQ below (QV shM idsM G A out) args s 0 0 A) (F0 m 3 ls [])) : ∀ (S : St) (x1 : Int32) (x2 : Int32) (x3 : Int32) (x4 : Int32) (x5 : Int32) (x6 : Int32) (x7 : Int32) (x8 : Int32) (x9 : Int32) (x10 : Int32) (y0 : Int32) (H : Heap) (locs : List Loc) (ls : Array Slot), Wd shM idsM G A S H → va_S A s.heap H locs → lv_has ls 14 [(0, .ref (G.2.2 0 0)), (1, .int x1), (2, .int x2), (3, .int x3), (4, .int x4), (5, .int x5), (6, .int x6), (7, .int x7), (8, .int x8), (9, .int x9), (10, .int x10)] → j_X9_tryAll_222 kb S x1 x2 x3 x4 x5 x6 x7 x8 x9 x10 y0 = some out → W p l e rm_X9_tryAll s m args below meth c H locs 0 0 (MQ below (QV shM idsM G A out) args s 0 0 A) (F0 m 222 ls [.int y0]) := by
  intro S x1 x2 x3 x4 x5 x6 x7 x8 x9 x10 y0 H locs ls hW hS hl h
  unfold j_X9_tryAll_222 at h
  refine lv_istore (lv' := [(11, .int y0), (0, .ref (G.2.2 0 0)), (1, .int x1), (2, .int x2), (3, .int x3), (4, .int x4), (5, .int x5), (6, .int x6), (7, .int x7), (8, .int x8), (9, .int x9), (10, .int x10)]) F.1 F.2.1 dX9_tryAll_222 hl (by decide) rfl (fun ls hl => ?_)
  refine lv_iload F.1 F.2.1 dX9_tryAll_224 (lv_at hl 5 rfl) ?_
  refine lv_if_ne (tgt := 240) F.1 F.2.1 dX9_tryAll_226 (by decide) (fun c_44 => ?_) (fun c_44 => ?_)
  · have h := (if_neg c_44).symm.trans h
    refine lv_aload_n F.1 F.2.1 dX9_tryAll_240 rfl (lv_at hl 1 rfl) ?_
    refine rw_get (q0 := 0) F hK hW idM_0 rfl rfl in_X9_tryAll_X9 42 (by decide) lk_X9_tryAll_101 rfl dX9_tryAll_241 ?_
    refine lv_iload_n F.1 F.2.1 dX9_tryAll_244 rfl (lv_at hl 2 rfl) ?_
    refine lv_iload_n F.1 F.2.1 dX9_tryAll_245 rfl (lv_at hl 3 rfl) ?_
    refine lv_iadd F.1 F.2.1 dX9_tryAll_246 ?_
    obtain ⟨b_45, h⟩ := gd_some h
    refine rw_iald (q0 := 31) F hK hW idM_31 (fun _ => rfl) (ix_in b_45) dX9_tryAll_247 ?_
    refine lv_topi (fun v_46 ev_46 => ?_)
    have h := lt_n ev_46 h
    exact w_X9_tryAll_248 F hr hlk hK out kb Kb _ _ _ _ _ _ _ _ _ _ _ _ _ _ _ _  hW hS (lv_sub hl [1, 2, 3, 4, 5, 6, 7, 8, 9, 10, 11, 0] rfl) h
  · have h := (if_pos c_44).symm.trans h
    refine lv_aload_n F.1 F.2.1 dX9_tryAll_229 rfl (lv_at hl 1 rfl) ?_
    refine rw_get (q0 := 0) F hK hW idM_0 rfl rfl in_X9_tryAll_X9 43 (by decide) lk_X9_tryAll_104 rfl dX9_tryAll_230 ?_
    refine lv_iload_n F.1 F.2.1 dX9_tryAll_233 rfl (lv_at hl 2 rfl) ?_
    refine lv_iload_n F.1 F.2.1 dX9_tryAll_234 rfl (lv_at hl 3 rfl) ?_
    refine lv_iadd F.1 F.2.1 dX9_tryAll_235 ?_
    obtain ⟨b_68, h⟩ := gd_some h
    refine rw_iald (q0 := 32) F hK hW idM_32 (fun _ => rfl) (ix_in b_68) dX9_tryAll_236 ?_
    refine lv_topi (fun v_69 ev_69 => ?_)
    have h := lt_n ev_69 h
    refine lv_goto (tgt := 248) F.1 F.2.1 dX9_tryAll_237 (by decide) ?_
    exact w_X9_tryAll_248 F hr hlk hK out kb Kb _ _ _ _ _ _ _ _ _ _ _ _ _ _ _ _  hW hS (lv_sub hl [1, 2, 3, 4, 5, 6, 7, 8, 9, 10, 11, 0] rfl) h
set_option maxHeartbeats 4000000 in
set_option maxRecDepth 100000 in
theorem w_X9_tryAll_196 {p : Program} {l : Launch} {e : Env} {s : State} {m : MethodId} {args : Array Value} {below : List Frame} {meth : Method} {c : Code} {G : GT} {A : Nat → Prop} (F : CallFix p m c cX9_tryAll 14 s args wsX9_tryAll RX9) (hr : meth.sig.returnType = none) (hlk : meth.locks = false) (hK : va_K G.1 vwCl (tyl G) s) (out : St) (kb : St → Int32 → Int32 → Int32 → Int32 → Int32 → Option (St)) (Kb : ∀ (S : St) (x1 : Int32) (x2 : Int32) (x3 : Int32) (x4 : Int32) (x5 : Int32) (H : Heap) (locs : List Loc) (ls : Array Slot), Wd shM idsM G A S H → va_S A s.heap H locs → lv_has ls 14 [(0, .ref (G.2.2 0 0)), (1, .int x1), (2, .int x2), (3, .int x3), (4, .int x4), (5, .int x5)] → kb S x1 x2 x3 x4 x5 = some out → W p l e rm_X9_tryAll s m args below meth c H locs 0 0 (MQ below (QV shM idsM G A out) args s 0 0 A) (F0 m 3 ls [])) : ∀ (S : St) (x1 : Int32) (x2 : Int32) (x3 : Int32) (x4 : Int32) (x5 : Int32) (x6 : Int32) (x7 : Int32) (x8 : Int32) (x9 : Int32) (y0 : Int32) (H : Heap) (locs : List Loc) (ls : Array Slot), Wd shM idsM G A S H → va_S A s.heap H locs → lv_has ls 14 [(0, .ref (G.2.2 0 0)), (1, .int x1), (2, .int x2), (3, .int x3), (4, .int x4), (5, .int x5), (6, .int x6), (7, .int x7), (8, .int x8), (9, .int x9)] → j_X9_tryAll_196 kb S x1 x2 x3 x4 x5 x6 x7 x8 x9 y0 = some out → W p l e rm_X9_tryAll s m args below meth c H locs 0 0 (MQ below (QV shM idsM G A out) args s 0 0 A) (F0 m 196 ls [.int y0]) := by
  intro S x1 x2 x3 x4 x5 x6 x7 x8 x9 y0 H locs ls hW hS hl h
  unfold j_X9_tryAll_196 at h
  refine lv_istore (lv' := [(10, .int y0), (0, .ref (G.2.2 0 0)), (1, .int x1), (2, .int x2), (3, .int x3), (4, .int x4), (5, .int x5), (6, .int x6), (7, .int x7), (8, .int x8), (9, .int x9)]) F.1 F.2.1 dX9_tryAll_196 hl (by decide) rfl (fun ls hl => ?_)
  refine lv_iload F.1 F.2.1 dX9_tryAll_198 (lv_at hl 5 rfl) ?_
  refine lv_if_ne (tgt := 214) F.1 F.2.1 dX9_tryAll_200 (by decide) (fun c_41 => ?_) (fun c_41 => ?_)
  · have h := (if_neg c_41).symm.trans h
    refine lv_aload_n F.1 F.2.1 dX9_tryAll_214 rfl (lv_at hl 1 rfl) ?_
    refine rw_get (q0 := 0) F hK hW idM_0 rfl rfl in_X9_tryAll_X9 43 (by decide) lk_X9_tryAll_104 rfl dX9_tryAll_215 ?_
    refine lv_iload_n F.1 F.2.1 dX9_tryAll_218 rfl (lv_at hl 2 rfl) ?_
    refine lv_iload_n F.1 F.2.1 dX9_tryAll_219 rfl (lv_at hl 3 rfl) ?_
    refine lv_iadd F.1 F.2.1 dX9_tryAll_220 ?_
    obtain ⟨b_42, h⟩ := gd_some h
    refine rw_iald (q0 := 32) F hK hW idM_32 (fun _ => rfl) (ix_in b_42) dX9_tryAll_221 ?_
    refine lv_topi (fun v_43 ev_43 => ?_)
    have h := lt_n ev_43 h
    exact w_X9_tryAll_222 F hr hlk hK out kb Kb _ _ _ _ _ _ _ _ _ _ _ _ _ _ _  hW hS (lv_sub hl [1, 2, 3, 4, 5, 6, 7, 8, 9, 10, 0] rfl) h
  · have h := (if_pos c_41).symm.trans h
    refine lv_aload_n F.1 F.2.1 dX9_tryAll_203 rfl (lv_at hl 1 rfl) ?_
    refine rw_get (q0 := 0) F hK hW idM_0 rfl rfl in_X9_tryAll_X9 42 (by decide) lk_X9_tryAll_101 rfl dX9_tryAll_204 ?_
    refine lv_iload_n F.1 F.2.1 dX9_tryAll_207 rfl (lv_at hl 2 rfl) ?_
    refine lv_iload_n F.1 F.2.1 dX9_tryAll_208 rfl (lv_at hl 3 rfl) ?_
    refine lv_iadd F.1 F.2.1 dX9_tryAll_209 ?_
    obtain ⟨b_70, h⟩ := gd_some h
    refine rw_iald (q0 := 31) F hK hW idM_31 (fun _ => rfl) (ix_in b_70) dX9_tryAll_210 ?_
    refine lv_topi (fun v_71 ev_71 => ?_)
    have h := lt_n ev_71 h
    refine lv_goto (tgt := 222) F.1 F.2.1 dX9_tryAll_211 (by decide) ?_
    exact w_X9_tryAll_222 F hr hlk hK out kb Kb _ _ _ _ _ _ _ _ _ _ _ _ _ _ _  hW hS (lv_sub hl [1, 2, 3, 4, 5, 6, 7, 8, 9, 10, 0] rfl) h
set_option maxHeartbeats 4000000 in
set_option maxRecDepth 100000 in
theorem w_X9_tryAll_182 {p : Program} {l : Launch} {e : Env} {s : State} {m : MethodId} {args : Array Value} {below : List Frame} {meth : Method} {c : Code} {G : GT} {A : Nat → Prop} (F : CallFix p m c cX9_tryAll 14 s args wsX9_tryAll RX9) (hr : meth.sig.returnType = none) (hlk : meth.locks = false) (hK : va_K G.1 vwCl (tyl G) s) (out : St) (kb : St → Int32 → Int32 → Int32 → Int32 → Int32 → Option (St)) (Kb : ∀ (S : St) (x1 : Int32) (x2 : Int32) (x3 : Int32) (x4 : Int32) (x5 : Int32) (H : Heap) (locs : List Loc) (ls : Array Slot), Wd shM idsM G A S H → va_S A s.heap H locs → lv_has ls 14 [(0, .ref (G.2.2 0 0)), (1, .int x1), (2, .int x2), (3, .int x3), (4, .int x4), (5, .int x5)] → kb S x1 x2 x3 x4 x5 = some out → W p l e rm_X9_tryAll s m args below meth c H locs 0 0 (MQ below (QV shM idsM G A out) args s 0 0 A) (F0 m 3 ls [])) : ∀ (S : St) (x1 : Int32) (x2 : Int32) (x3 : Int32) (x4 : Int32) (x5 : Int32) (x6 : Int32) (x7 : Int32) (x8 : Int32) (y0 : Int32) (H : Heap) (locs : List Loc) (ls : Array Slot), Wd shM idsM G A S H → va_S A s.heap H locs → lv_has ls 14 [(0, .ref (G.2.2 0 0)), (1, .int x1), (2, .int x2), (3, .int x3), (4, .int x4), (5, .int x5), (6, .int x6), (7, .int x7), (8, .int x8)] → j_X9_tryAll_182 kb S x1 x2 x3 x4 x5 x6 x7 x8 y0 = some out → W p l e rm_X9_tryAll s m args below meth c H locs 0 0 (MQ below (QV shM idsM G A out) args s 0 0 A) (F0 m 182 ls [.int y0]) := by
  intro S x1 x2 x3 x4 x5 x6 x7 x8 y0 H locs ls hW hS hl h
  unfold j_X9_tryAll_182 at h
  refine lv_istore (lv' := [(9, .int y0), (0, .ref (G.2.2 0 0)), (1, .int x1), (2, .int x2), (3, .int x3), (4, .int x4), (5, .int x5), (6, .int x6), (7, .int x7), (8, .int x8)]) F.1 F.2.1 dX9_tryAll_182 hl (by decide) rfl (fun ls hl => ?_)
  refine lv_iload F.1 F.2.1 dX9_tryAll_184 (lv_at hl 5 rfl) ?_
  refine lv_if_ne (tgt := 194) F.1 F.2.1 dX9_tryAll_186 (by decide) (fun c_40 => ?_) (fun c_40 => ?_)
  · have h := (if_neg c_40).symm.trans h
    refine lv_iload F.1 F.2.1 dX9_tryAll_194 (lv_at hl 8 rfl) ?_
    exact w_X9_tryAll_196 F hr hlk hK out kb Kb _ _ _ _ _ _ _ _ _ _ _ _ _ _  hW hS (lv_sub hl [1, 2, 3, 4, 5, 6, 7, 8, 9, 0] rfl) h
  · have h := (if_pos c_40).symm.trans h
    refine lv_iload F.1 F.2.1 dX9_tryAll_189 (lv_at hl 9 rfl) ?_
    refine lv_goto (tgt := 196) F.1 F.2.1 dX9_tryAll_191 (by decide) ?_
    exact w_X9_tryAll_196 F hr hlk hK out kb Kb _ _ _ _ _ _ _ _ _ _ _ _ _ _  hW hS (lv_sub hl [1, 2, 3, 4, 5, 6, 7, 8, 9, 0] rfl) h
set_option maxHeartbeats 4000000 in
set_option maxRecDepth 100000 in
theorem w_X9_tryAll_3 {p : Program} {l : Launch} {e : Env} {s : State} {m : MethodId} {args : Array Value} {below : List Frame} {meth : Method} {c : Code} {G : GT} {A : Nat → Prop} (F : CallFix p m c cX9_tryAll 14 s args wsX9_tryAll RX9) (hr : meth.sig.returnType = none) (hlk : meth.locks = false) (hK : va_K G.1 vwCl (tyl G) s) (out : St) : ∀ n : Nat, ∀ (S : St) (x1 : Int32) (x2 : Int32) (x3 : Int32) (x4 : Int32) (x5 : Int32) (H : Heap) (locs : List Loc) (ls : Array Slot), Wd shM idsM G A S H → va_S A s.heap H locs → lv_has ls 14 [(0, .ref (G.2.2 0 0)), (1, .int x1), (2, .int x2), (3, .int x3), (4, .int x4), (5, .int x5)] → l_X9_tryAll_3 n S x1 x2 x3 x4 x5 = some out → W p l e rm_X9_tryAll s m args below meth c H locs 0 0 (MQ below (QV shM idsM G A out) args s 0 0 A) (F0 m 3 ls []) := by
  intro n
  induction n with
  | zero =>
    intro S x1 x2 x3 x4 x5 H locs ls hW hS hl h
    cases h
  | succ n Kb =>
    generalize hkb : l_X9_tryAll_3 n = kb at Kb
    intro S x1 x2 x3 x4 x5 H locs ls hW hS hl h
    rw [show l_X9_tryAll_3 (n + 1) = b_X9_tryAll_3 (l_X9_tryAll_3 n) from rfl, hkb] at h
    unfold b_X9_tryAll_3 at h
    refine lv_iload F.1 F.2.1 dX9_tryAll_3 (lv_at hl 5 rfl) ?_
    refine lv_iconst (v := 1) F.1 F.2.1 dX9_tryAll_5 (by decide) ?_
    refine lv_aload_n F.1 F.2.1 dX9_tryAll_6 rfl (lv_at hl 0 rfl) ?_
    refine rw_get (q0 := 0) F hK hW idM_0 rfl rfl in_X9_tryAll_X9 27 (by decide) lk_X9_tryAll_68 rfl dX9_tryAll_7 ?_
    refine lv_iload_n F.1 F.2.1 dX9_tryAll_10 rfl (lv_at hl 3 rfl) ?_
    obtain ⟨b_1, h⟩ := gd_some h
    refine rw_iald (q0 := 20) F hK hW idM_20 (fun _ => rfl) (ix_in b_1) dX9_tryAll_11 ?_
    refine lv_topi (fun v_2 ev_2 => ?_)
    have h := lt_n ev_2 h
    refine lv_ishl F.1 F.2.1 dX9_tryAll_12 ?_
    refine lv_icmp_ge (tgt := 368) F.1 F.2.1 dX9_tryAll_13 (by decide) (fun c_3 => ?_) (fun c_3 => ?_)
    · have h := (if_pos c_3).symm.trans h
      exact rw_retv F hr hlk hK hW hS h dX9_tryAll_368
    · have h := (if_neg c_3).symm.trans h
      refine lv_aload_n F.1 F.2.1 dX9_tryAll_16 rfl (lv_at hl 0 rfl) ?_
      refine lv_iload_n F.1 F.2.1 dX9_tryAll_17 rfl (lv_at hl 3 rfl) ?_
      refine lv_iload_n F.1 F.2.1 dX9_tryAll_18 rfl (lv_at hl 2 rfl) ?_
      refine lv_iload F.1 F.2.1 dX9_tryAll_19 (lv_at hl 5 rfl) ?_
      obtain ⟨r_5, S_6, hq_4, h⟩ := bi_some h
      refine rw_vi F hK hW hS [.int x3, .int x2, .int x5] (rest := []) (c_X9_fits l G A x3 x2 x5 S (r_5, S_6) hq_4) (cwV 3 F.2.2.2.2 gX9_tryAll_X9_fits rfl rfl rfl (by decide +kernel) ⟨Nat.le_of_ble_eq_true rfl, Nat.le_of_ble_eq_true rfl⟩) (rw_recv (q0 := 0) hK hW idM_0 rfl rfl) rfl hl.1 rfl (Nat.le_of_ble_eq_true rfl) dX9_tryAll_21 (fun H locs hW hS => ?_)
      refine lv_if_eq (tgt := 362) F.1 F.2.1 dX9_tryAll_24 (by decide) (fun c_7 => ?_) (fun c_7 => ?_)
      · have h := (if_pos c_7).symm.trans h
        exact w_X9_tryAll_362 F hr hlk hK out kb Kb _ _ _ _ _ _ _ _ _  hW hS hl h
      · have h := (if_neg c_7).symm.trans h
        refine lv_iconst (v := 1) F.1 F.2.1 dX9_tryAll_27 (by decide) ?_
        refine lv_istore (lv' := [(6, .int 1), (0, .ref (G.2.2 0 0)), (1, .int x1), (2, .int x2), (3, .int x3), (4, .int x4), (5, .int x5)]) F.1 F.2.1 dX9_tryAll_28 hl (by decide) rfl (fun ls hl => ?_)
        refine lv_aload_n F.1 F.2.1 dX9_tryAll_30 rfl (lv_at hl 1 rfl) ?_
        refine rw_get (q0 := 0) F hK hW idM_0 rfl rfl in_X9_tryAll_X9 24 (by decide) lk_X9_tryAll_59 rfl dX9_tryAll_31 ?_
        refine lv_iload_n F.1 F.2.1 dX9_tryAll_34 rfl (lv_at hl 4 rfl) ?_
        obtain ⟨b_9, h⟩ := gd_some h
        refine rw_iald (q0 := 17) F hK hW idM_17 (fun _ => rfl) (ix_in b_9) dX9_tryAll_35 ?_
        refine lv_topi (fun v_10 ev_10 => ?_)
        have h := lt_n ev_10 h
        refine lv_istore (lv' := [(7, .int v_10), (6, .int 1), (0, .ref (G.2.2 0 0)), (1, .int x1), (2, .int x2), (3, .int x3), (4, .int x4), (5, .int x5)]) F.1 F.2.1 dX9_tryAll_36 hl (by decide) rfl (fun ls hl => ?_)
        refine lv_iconst (v := 0) F.1 F.2.1 dX9_tryAll_38 (by decide) ?_
        refine lv_istore (lv' := [(8, .int 0), (7, .int v_10), (6, .int 1), (0, .ref (G.2.2 0 0)), (1, .int x1), (2, .int x2), (3, .int x3), (4, .int x4), (5, .int x5)]) F.1 F.2.1 dX9_tryAll_39 hl (by decide) rfl (fun ls hl => ?_)
        refine lv_iconst (v := 0) F.1 F.2.1 dX9_tryAll_41 (by decide) ?_
        refine lv_istore (lv' := [(9, .int 0), (8, .int 0), (7, .int v_10), (6, .int 1), (0, .ref (G.2.2 0 0)), (1, .int x1), (2, .int x2), (3, .int x3), (4, .int x4), (5, .int x5)]) F.1 F.2.1 dX9_tryAll_42 hl (by decide) rfl (fun ls hl => ?_)
        refine w_X9_tryAll_44 F hr hlk hK out _ ?_ 5000 _ _ _ _ _ _ _ _ _ _ _ _ _  hW hS (lv_sub hl [4, 5, 6, 7, 8, 9, 3, 2, 1, 0] rfl) h
        · intro S x1 x2 x3 x4 x5 x6 x7 x8 H locs ls hW hS hl h
          refine lv_iload F.1 F.2.1 dX9_tryAll_159 (lv_at hl 8 rfl) ?_
          refine lv_aload_n F.1 F.2.1 dX9_tryAll_161 rfl (lv_at hl 0 rfl) ?_
          refine rw_get (q0 := 0) F hK hW idM_0 rfl rfl in_X9_tryAll_X9 25 (by decide) lk_X9_tryAll_62 rfl dX9_tryAll_162 ?_
          refine lv_iload_n F.1 F.2.1 dX9_tryAll_165 rfl (lv_at hl 3 rfl) ?_
          obtain ⟨b_36, h⟩ := gd_some h
          refine rw_iald (q0 := 18) F hK hW idM_18 (fun _ => rfl) (ix_in b_36) dX9_tryAll_166 ?_
          refine lv_topi (fun v_37 ev_37 => ?_)
          have h := lt_n ev_37 h
          refine lv_iadd F.1 F.2.1 dX9_tryAll_167 ?_
          refine lv_topi (fun v_38 ev_38 => ?_)
          have h := lt_n ev_38 h
          refine lv_istore (lv' := [(8, .int v_38), (0, .ref (G.2.2 0 0)), (1, .int x1), (2, .int x2), (3, .int x3), (4, .int x4), (5, .int x5), (6, .int x6), (7, .int x7)]) F.1 F.2.1 dX9_tryAll_168 hl (by decide) rfl (fun ls hl => ?_)
          refine lv_iload F.1 F.2.1 dX9_tryAll_170 (lv_at hl 5 rfl) ?_
          refine lv_if_ne (tgt := 180) F.1 F.2.1 dX9_tryAll_172 (by decide) (fun c_39 => ?_) (fun c_39 => ?_)
          · have h := (if_neg c_39).symm.trans h
            refine lv_iload F.1 F.2.1 dX9_tryAll_180 (lv_at hl 0 rfl) ?_
            exact w_X9_tryAll_182 F hr hlk hK out kb Kb _ _ _ _ _ _ _ _ _ _ _ _ _  hW hS (lv_sub hl [1, 2, 3, 4, 5, 6, 7, 8, 0] rfl) h
          · have h := (if_pos c_39).symm.trans h
            refine lv_iload F.1 F.2.1 dX9_tryAll_175 (lv_at hl 8 rfl) ?_
            refine lv_goto (tgt := 182) F.1 F.2.1 dX9_tryAll_177 (by decide) ?_
            exact w_X9_tryAll_182 F hr hlk hK out kb Kb _ _ _ _ _ _ _ _ _ _ _ _ _  hW hS (lv_sub hl [1, 2, 3, 4, 5, 6, 7, 8, 0] rfl) h
set_option maxHeartbeats 4000000 in
set_option maxRecDepth 100000 in
theorem c_X9_tryAll (l : Launch) (G : GT) (A : Nat → Prop) (a0 : Int32) (a1 : Int32) (a2 : Int32) (a3 : Int32) (S : St) (out : St) (h : f_X9_tryAll a0 a1 a2 a3 S = some out) : Met l yX9_tryAll wsX9_tryAll rm_X9_tryAll (va_Pc [.ref (G.2.2 0 0), .int a0, .int a1, .int a2, .int a3] (WD shM idsM G A S)) (QV shM idsM G A out) 0 0 A := by
  refine Met.ofW (cc := cX9_tryAll) (maxL := 14) (ret := none) (by decide) rfl ?_
  intro p e s m args below meth c s₁ B hml hv
  obtain ⟨rfl, hW, hK⟩ := hv
  have F : CallFix p m c cX9_tryAll 14 s _ wsX9_tryAll RX9 := ⟨B.exec, B.bytes, hml, findClass_of_methodNamed B.named, atoms_spec (ws := wsX9_tryAll) B.pre⟩
  have hr := B.returns
  have hlk := B.notSynchronized
  have hS : va_S A s.heap s.heap [] := va_S.rf
  have hl := lv_entry ([.ref (G.2.2 0 0), .int a0, .int a1, .int a2, .int a3]) (n := 14) (Nat.le_of_ble_eq_true rfl)
  rw [lg_entry_eq]
  generalize (lg_sl ([.ref (G.2.2 0 0), .int a0, .int a1, .int a2, .int a3]) ++ List.replicate (14 - (lg_sl ([.ref (G.2.2 0 0), .int a0, .int a1, .int a2, .int a3])).length) Slot.unset).toArray = ls at hl ⊢
  have hl : lv_has ls 14 [(0, .ref (G.2.2 0 0)), (1, .int a0), (2, .int a1), (3, .int a2), (4, .int a3)] := hl
  unfold f_X9_tryAll at h
  refine lv_iconst (v := 0) F.1 F.2.1 dX9_tryAll_0 (by decide) ?_
  refine lv_istore (lv' := [(5, .int 0), (0, .ref (G.2.2 0 0)), (1, .int a0), (2, .int a1), (3, .int a2), (4, .int a3)]) F.1 F.2.1 dX9_tryAll_1 hl (by decide) rfl (fun ls hl => ?_)
  refine w_X9_tryAll_3 F hr hlk hK out   5000 _ _ _ _ _ _ _ _ _  hW hS (lv_sub hl [1, 2, 3, 4, 5, 0] rfl) h
/-! CellCoverModel.best(III)I -/
abbrev rm_X9_best : Room := { frames := 2, cells := 0, slots := 0, locals := 62 }
theorem in_X9_best_X9 : ∀ w ∈ wsX90, w ∈ wsX9_best := by decide +kernel
theorem lk_X9_best_163 : Cond.fieldLink RX9 163 "CellCoverModel" "vertices" "I" ∈ wsX9_best := by decide +kernel
theorem lk_X9_best_98 : Cond.fieldLink RX9 98 "CellCoverModel" "has" "[Z" ∈ wsX9_best := by decide +kernel
theorem lk_X9_best_31 : Cond.fieldLink RX9 31 "CellCoverModel" "vWhat" "[I" ∈ wsX9_best := by decide +kernel
theorem lk_X9_best_101 : Cond.fieldLink RX9 101 "CellCoverModel" "bestArea" "[I" ∈ wsX9_best := by decide +kernel
theorem lk_X9_best_104 : Cond.fieldLink RX9 104 "CellCoverModel" "bestArrival" "[I" ∈ wsX9_best := by decide +kernel
theorem lk_X9_best_107 : Cond.fieldLink RX9 107 "CellCoverModel" "bestCell" "[I" ∈ wsX9_best := by decide +kernel
theorem lk_X9_best_110 : Cond.fieldLink RX9 110 "CellCoverModel" "bestPins" "[I" ∈ wsX9_best := by decide +kernel
theorem lk_X9_best_222 : Cond.fieldLink RX9 222 "CellCoverModel" "cells" "I" ∈ wsX9_best := by decide +kernel
theorem lk_X9_best_46 : Cond.fieldLink RX9 46 "CellCoverModel" "lives" "[Z" ∈ wsX9_best := by decide +kernel
theorem lk_X9_best_56 : Cond.fieldLink RX9 56 "CellCoverModel" "isThere" "[Z" ∈ wsX9_best := by decide +kernel
theorem lk_X9_best_50 : Cond.fieldLink RX9 50 "CellCoverModel" "root" "[Z" ∈ wsX9_best := by decide +kernel
set_option maxHeartbeats 4000000 in
set_option maxRecDepth 100000 in
theorem w_X9_best_95 {p : Program} {l : Launch} {e : Env} {s : State} {m : MethodId} {args : Array Value} {below : List Frame} {meth : Method} {c : Code} {G : GT} {A : Nat → Prop} (F : CallFix p m c cX9_best 8 s args wsX9_best RX9) (hr : meth.sig.returnType = (some .int)) (hlk : meth.locks = false) (hK : va_K G.1 vwCl (tyl G) s) (out : Int32 × St) (k126 : St → Int32 → Int32 → Int32 → Int32 → Int32 → Option (Int32 × St)) (K126 : ∀ (S : St) (x2 : Int32) (x3 : Int32) (x4 : Int32) (x5 : Int32) (x6 : Int32) (H : Heap) (locs : List Loc) (ls : Array Slot), Wd shM idsM G A S H → va_S A s.heap H locs → lv_has ls 8 [(0, .ref (G.2.2 0 0)), (2, .int x2), (3, .int x3), (4, .int x4), (5, .int x5), (6, .int x6)] → k126 S x2 x3 x4 x5 x6 = some out → W p l e rm_X9_best s m args below meth c H locs 0 0 (MQ below (QI shM idsM G A out) args s 0 0 A) (F0 m 126 ls [])) : ∀ n : Nat, ∀ (S : St) (x2 : Int32) (x3 : Int32) (x4 : Int32) (x5 : Int32) (x6 : Int32) (x7 : Int32) (H : Heap) (locs : List Loc) (ls : Array Slot), Wd shM idsM G A S H → va_S A s.heap H locs → lv_has ls 8 [(0, .ref (G.2.2 0 0)), (2, .int x2), (3, .int x3), (4, .int x4), (5, .int x5), (6, .int x6), (7, .int x7)] → l_X9_best_95 k126 n S x2 x3 x4 x5 x6 x7 = some out → W p l e rm_X9_best s m args below meth c H locs 0 0 (MQ below (QI shM idsM G A out) args s 0 0 A) (F0 m 95 ls []) := by
  intro n
  induction n with
  | zero =>
    intro S x2 x3 x4 x5 x6 x7 H locs ls hW hS hl h
    cases h
  | succ n Kb =>
    generalize hkb : l_X9_best_95 k126 n = kb at Kb
    intro S x2 x3 x4 x5 x6 x7 H locs ls hW hS hl h
    rw [show l_X9_best_95 k126 (n + 1) = b_X9_best_95 (l_X9_best_95 k126 n) k126 from rfl, hkb] at h
    unfold b_X9_best_95 at h
    refine lv_iload F.1 F.2.1 dX9_best_95 (lv_at hl 6 rfl) ?_
    refine lv_bipush (v := 6) F.1 F.2.1 dX9_best_97 (by decide) ?_
    refine lv_icmp_ge (tgt := 126) F.1 F.2.1 dX9_best_99 (by decide) (fun c_14 => ?_) (fun c_14 => ?_)
    · have h := (if_pos c_14).symm.trans h
      exact K126 _ _ _ _ _ _ _ _ _  hW hS (lv_sub hl [0, 1, 2, 3, 4, 5] rfl) h
    · have h := (if_neg c_14).symm.trans h
      refine lv_aload_n F.1 F.2.1 dX9_best_102 rfl (lv_at hl 0 rfl) ?_
      refine rw_get (q0 := 0) F hK hW idM_0 rfl rfl in_X9_best_X9 45 (by decide) lk_X9_best_110 rfl dX9_best_103 ?_
      refine lv_bipush (v := 6) F.1 F.2.1 dX9_best_106 (by decide) ?_
      refine lv_iload F.1 F.2.1 dX9_best_108 (lv_at hl 3 rfl) ?_
      refine lv_iload F.1 F.2.1 dX9_best_110 (lv_at hl 5 rfl) ?_
      refine lv_iadd F.1 F.2.1 dX9_best_112 ?_
      refine lv_imul F.1 F.2.1 dX9_best_113 ?_
      refine lv_iload F.1 F.2.1 dX9_best_114 (lv_at hl 6 rfl) ?_
      refine lv_iadd F.1 F.2.1 dX9_best_116 ?_
      refine lv_bipush (v := -4) F.1 F.2.1 dX9_best_117 (by decide) ?_
      obtain ⟨b_15, h⟩ := gd_some h
      refine rw_iast ndM (q0 := 34) F hK hW hS idM_34 (fun _ => rfl) (ix_in b_15) dX9_best_119 (fun H locs S_16 eS_16 hW hS => ?_)
      have h := lt_n eS_16 h
      obtain ⟨v_17, ev_17⟩ : ∃ y : Int32, y = x7 + 1 := ⟨_, rfl⟩
      have h := lt_n ev_17 h
      refine lv_iinc (v := v_17) (lv' := [(7, .int v_17), (0, .ref (G.2.2 0 0)), (2, .int x2), (3, .int x3), (4, .int x4), (5, .int x5), (6, .int x6)]) F.1 F.2.1 dX9_best_120 hl (k := 6) rfl (by rw [ev_17]; rfl) (by decide) rfl (fun ls hl => ?_)
      refine lv_goto (tgt := 95) F.1 F.2.1 dX9_best_123 (by decide) ?_
      exact Kb _ _ _ _ _ _ _ _ _ _  hW hS (lv_sub hl [1, 2, 3, 4, 5, 6, 0] rfl) h
set_option maxHeartbeats 4000000 in
set_option maxRecDepth 100000 in
theorem w_X9_best_185 {p : Program} {l : Launch} {e : Env} {s : State} {m : MethodId} {args : Array Value} {below : List Frame} {meth : Method} {c : Code} {G : GT} {A : Nat → Prop} (F : CallFix p m c cX9_best 8 s args wsX9_best RX9) (hr : meth.sig.returnType = (some .int)) (hlk : meth.locks = false) (hK : va_K G.1 vwCl (tyl G) s) (out : Int32 × St) (kb : St → Int32 → Int32 → Int32 → Int32 → Int32 → Int32 → Option (Int32 × St)) (k191 : St → Int32 → Int32 → Int32 → Int32 → Int32 → Option (Int32 × St)) (Kb : ∀ (S : St) (x2 : Int32) (x3 : Int32) (x4 : Int32) (x5 : Int32) (x6 : Int32) (x7 : Int32) (H : Heap) (locs : List Loc) (ls : Array Slot), Wd shM idsM G A S H → va_S A s.heap H locs → lv_has ls 8 [(0, .ref (G.2.2 0 0)), (2, .int x2), (3, .int x3), (4, .int x4), (5, .int x5), (6, .int x6), (7, .int x7)] → kb S x2 x3 x4 x5 x6 x7 = some out → W p l e rm_X9_best s m args below meth c H locs 0 0 (MQ below (QI shM idsM G A out) args s 0 0 A) (F0 m 129 ls [])) (K191 : ∀ (S : St) (x2 : Int32) (x3 : Int32) (x4 : Int32) (x5 : Int32) (x6 : Int32) (H : Heap) (locs : List Loc) (ls : Array Slot), Wd shM idsM G A S H → va_S A s.heap H locs → lv_has ls 8 [(0, .ref (G.2.2 0 0)), (2, .int x2), (3, .int x3), (4, .int x4), (5, .int x5), (6, .int x6)] → k191 S x2 x3 x4 x5 x6 = some out → W p l e rm_X9_best s m args below meth c H locs 0 0 (MQ below (QI shM idsM G A out) args s 0 0 A) (F0 m 191 ls [])) : ∀ (S : St) (x2 : Int32) (x3 : Int32) (x4 : Int32) (x5 : Int32) (x6 : Int32) (x7 : Int32) (H : Heap) (locs : List Loc) (ls : Array Slot), Wd shM idsM G A S H → va_S A s.heap H locs → lv_has ls 8 [(0, .ref (G.2.2 0 0)), (2, .int x2), (3, .int x3), (4, .int x4), (5, .int x5), (6, .int x6), (7, .int x7)] → j_X9_best_185 kb k191 S x2 x3 x4 x5 x6 x7 = some out → W p l e rm_X9_best s m args below meth c H locs 0 0 (MQ below (QI shM idsM G A out) args s 0 0 A) (F0 m 185 ls []) := by
  intro S x2 x3 x4 x5 x6 x7 H locs ls hW hS hl h
  unfold j_X9_best_185 at h
  obtain ⟨v_28, ev_28⟩ : ∃ y : Int32, y = x7 + 1 := ⟨_, rfl⟩
  have h := lt_n ev_28 h
  refine lv_iinc (v := v_28) (lv' := [(7, .int v_28), (0, .ref (G.2.2 0 0)), (2, .int x2), (3, .int x3), (4, .int x4), (5, .int x5), (6, .int x6)]) F.1 F.2.1 dX9_best_185 hl (k := 6) rfl (by rw [ev_28]; rfl) (by decide) rfl (fun ls hl => ?_)
  refine lv_goto (tgt := 129) F.1 F.2.1 dX9_best_188 (by decide) ?_
  exact Kb _ _ _ _ _ _ _ _ _ _  hW hS (lv_sub hl [1, 2, 3, 4, 5, 6, 0] rfl) h
set_option maxHeartbeats 4000000 in
set_option maxRecDepth 100000 in
theorem w_X9_best_129 {p : Program} {l : Launch} {e : Env} {s : State} {m : MethodId} {args : Array Value} {below : List Frame} {meth : Method} {c : Code} {G : GT} {A : Nat → Prop} (F : CallFix p m c cX9_best 8 s args wsX9_best RX9) (hr : meth.sig.returnType = (some .int)) (hlk : meth.locks = false) (hK : va_K G.1 vwCl (tyl G) s) (out : Int32 × St) (k191 : St → Int32 → Int32 → Int32 → Int32 → Int32 → Option (Int32 × St)) (K191 : ∀ (S : St) (x2 : Int32) (x3 : Int32) (x4 : Int32) (x5 : Int32) (x6 : Int32) (H : Heap) (locs : List Loc) (ls : Array Slot), Wd shM idsM G A S H → va_S A s.heap H locs → lv_has ls 8 [(0, .ref (G.2.2 0 0)), (2, .int x2), (3, .int x3), (4, .int x4), (5, .int x5), (6, .int x6)] → k191 S x2 x3 x4 x5 x6 = some out → W p l e rm_X9_best s m args below meth c H locs 0 0 (MQ below (QI shM idsM G A out) args s 0 0 A) (F0 m 191 ls [])) : ∀ n : Nat, ∀ (S : St) (x2 : Int32) (x3 : Int32) (x4 : Int32) (x5 : Int32) (x6 : Int32) (x7 : Int32) (H : Heap) (locs : List Loc) (ls : Array Slot), Wd shM idsM G A S H → va_S A s.heap H locs → lv_has ls 8 [(0, .ref (G.2.2 0 0)), (2, .int x2), (3, .int x3), (4, .int x4), (5, .int x5), (6, .int x6), (7, .int x7)] → l_X9_best_129 k191 n S x2 x3 x4 x5 x6 x7 = some out → W p l e rm_X9_best s m args below meth c H locs 0 0 (MQ below (QI shM idsM G A out) args s 0 0 A) (F0 m 129 ls []) := by
  intro n
  induction n with
  | zero =>
    intro S x2 x3 x4 x5 x6 x7 H locs ls hW hS hl h
    cases h
  | succ n Kb =>
    generalize hkb : l_X9_best_129 k191 n = kb at Kb
    intro S x2 x3 x4 x5 x6 x7 H locs ls hW hS hl h
    rw [show l_X9_best_129 k191 (n + 1) = b_X9_best_129 (l_X9_best_129 k191 n) k191 from rfl, hkb] at h
    unfold b_X9_best_129 at h
    refine lv_iload F.1 F.2.1 dX9_best_129 (lv_at hl 6 rfl) ?_
    refine lv_aload_n F.1 F.2.1 dX9_best_131 rfl (lv_at hl 0 rfl) ?_
    refine rw_get (q0 := 0) F hK hW idM_0 rfl rfl in_X9_best_X9 22 (by decide) lk_X9_best_222 rfl dX9_best_132 ?_
    refine lv_icmp_ge (tgt := 191) F.1 F.2.1 dX9_best_135 (by decide) (fun c_18 => ?_) (fun c_18 => ?_)
    · have h := (if_pos c_18).symm.trans h
      exact K191 _ _ _ _ _ _ _ _ _  hW hS (lv_sub hl [0, 1, 2, 3, 4, 5] rfl) h
    · have h := (if_neg c_18).symm.trans h
      refine lv_aload_n F.1 F.2.1 dX9_best_138 rfl (lv_at hl 0 rfl) ?_
      refine rw_get (q0 := 0) F hK hW idM_0 rfl rfl in_X9_best_X9 17 (by decide) lk_X9_best_46 rfl dX9_best_139 ?_
      refine lv_iload F.1 F.2.1 dX9_best_142 (lv_at hl 5 rfl) ?_
      obtain ⟨b_19, h⟩ := gd_some h
      refine rw_zald (q0 := 13) F hK hW idM_13 (fun _ => rfl) (ix_in b_19) dX9_best_144 ?_
      refine lv_topi (fun v_20 ev_20 => ?_)
      have h := lt_n ev_20 h
      refine lv_if_eq (tgt := 191) F.1 F.2.1 dX9_best_145 (by decide) (fun c_21 => ?_) (fun c_21 => ?_)
      · have h := (if_pos c_21).symm.trans h
        exact K191 _ _ _ _ _ _ _ _ _  hW hS (lv_sub hl [0, 1, 2, 3, 4, 5] rfl) h
      · have h := (if_neg c_21).symm.trans h
        refine lv_aload_n F.1 F.2.1 dX9_best_148 rfl (lv_at hl 0 rfl) ?_
        refine rw_get (q0 := 0) F hK hW idM_0 rfl rfl in_X9_best_X9 12 (by decide) lk_X9_best_31 rfl dX9_best_149 ?_
        refine lv_iload F.1 F.2.1 dX9_best_152 (lv_at hl 5 rfl) ?_
        obtain ⟨b_22, h⟩ := gd_some h
        refine rw_iald (q0 := 8) F hK hW idM_8 (fun _ => rfl) (ix_in b_22) dX9_best_154 ?_
        refine lv_topi (fun v_23 ev_23 => ?_)
        have h := lt_n ev_23 h
        refine lv_if_eq (tgt := 191) F.1 F.2.1 dX9_best_155 (by decide) (fun c_24 => ?_) (fun c_24 => ?_)
        · have h := (if_pos c_24).symm.trans h
          exact K191 _ _ _ _ _ _ _ _ _  hW hS (lv_sub hl [0, 1, 2, 3, 4, 5] rfl) h
        · have h := (if_neg c_24).symm.trans h
          refine lv_aload_n F.1 F.2.1 dX9_best_158 rfl (lv_at hl 0 rfl) ?_
          refine rw_get (q0 := 0) F hK hW idM_0 rfl rfl in_X9_best_X9 23 (by decide) lk_X9_best_56 rfl dX9_best_159 ?_
          refine lv_iload F.1 F.2.1 dX9_best_162 (lv_at hl 6 rfl) ?_
          obtain ⟨b_25, h⟩ := gd_some h
          refine rw_zald (q0 := 16) F hK hW idM_16 (fun _ => rfl) (ix_in b_25) dX9_best_164 ?_
          refine lv_topi (fun v_26 ev_26 => ?_)
          have h := lt_n ev_26 h
          refine lv_if_eq (tgt := 185) F.1 F.2.1 dX9_best_165 (by decide) (fun c_27 => ?_) (fun c_27 => ?_)
          · have h := (if_pos c_27).symm.trans h
            exact w_X9_best_185 F hr hlk hK out kb k191 Kb K191 _ _ _ _ _ _ _ _ _ _  hW hS hl h
          · have h := (if_neg c_27).symm.trans h
            refine lv_iload F.1 F.2.1 dX9_best_168 (lv_at hl 6 rfl) ?_
            refine lv_iload_n F.1 F.2.1 dX9_best_170 rfl (lv_at hl 2 rfl) ?_
            refine lv_icmp_eq (tgt := 185) F.1 F.2.1 dX9_best_171 (by decide) (fun c_29 => ?_) (fun c_29 => ?_)
            · have h := (if_pos c_29).symm.trans h
              exact w_X9_best_185 F hr hlk hK out kb k191 Kb K191 _ _ _ _ _ _ _ _ _ _  hW hS hl h
            · have h := (if_neg c_29).symm.trans h
              refine lv_aload_n F.1 F.2.1 dX9_best_174 rfl (lv_at hl 0 rfl) ?_
              refine lv_iload F.1 F.2.1 dX9_best_175 (lv_at hl 3 rfl) ?_
              refine lv_iload F.1 F.2.1 dX9_best_177 (lv_at hl 5 rfl) ?_
              refine lv_iload F.1 F.2.1 dX9_best_179 (lv_at hl 6 rfl) ?_
              refine lv_iload_n F.1 F.2.1 dX9_best_181 rfl (lv_at hl 1 rfl) ?_
              obtain ⟨q_30, hq_30, h⟩ := bv_some h
              refine rw_vv F hK hW hS [.int x4, .int x6, .int x7, .int x2] (rest := []) (c_X9_tryAll l G A x4 x6 x7 x2 S q_30 hq_30) (cwV 4 F.2.2.2.2 gX9_best_X9_tryAll rfl rfl rfl (by decide +kernel) ⟨Nat.le_of_ble_eq_true rfl, Nat.le_of_ble_eq_true rfl⟩) (rw_recv (q0 := 0) hK hW idM_0 rfl rfl) rfl hl.1 rfl (Nat.le_of_ble_eq_true rfl) dX9_best_182 (fun H locs hW hS => ?_)
              exact w_X9_best_185 F hr hlk hK out kb k191 Kb K191 _ _ _ _ _ _ _ _ _ _  hW hS hl h
set_option maxHeartbeats 4000000 in
set_option maxRecDepth 100000 in
theorem w_X9_best_228 {p : Program} {l : Launch} {e : Env} {s : State} {m : MethodId} {args : Array Value} {below : List Frame} {meth : Method} {c : Code} {G : GT} {A : Nat → Prop} (F : CallFix p m c cX9_best 8 s args wsX9_best RX9) (hr : meth.sig.returnType = (some .int)) (hlk : meth.locks = false) (hK : va_K G.1 vwCl (tyl G) s) (out : Int32 × St) (kb : St → Int32 → Int32 → Int32 → Int32 → Int32 → Option (Int32 × St)) (Kb : ∀ (S : St) (x2 : Int32) (x3 : Int32) (x4 : Int32) (x5 : Int32) (x6 : Int32) (H : Heap) (locs : List Loc) (ls : Array Slot), Wd shM idsM G A S H → va_S A s.heap H locs → lv_has ls 8 [(0, .ref (G.2.2 0 0)), (2, .int x2), (3, .int x3), (4, .int x4), (5, .int x5), (6, .int x6)] → kb S x2 x3 x4 x5 x6 = some out → W p l e rm_X9_best s m args below meth c H locs 0 0 (MQ below (QI shM idsM G A out) args s 0 0 A) (F0 m 14 ls [])) : ∀ (S : St) (x2 : Int32) (x3 : Int32) (x4 : Int32) (x6 : Int32) (y0 : Int32) (H : Heap) (locs : List Loc) (ls : Array Slot), Wd shM idsM G A S H → va_S A s.heap H locs → lv_has ls 8 [(0, .ref (G.2.2 0 0)), (2, .int x2), (3, .int x3), (4, .int x4), (6, .int x6)] → j_X9_best_228 kb S x2 x3 x4 x6 y0 = some out → W p l e rm_X9_best s m args below meth c H locs 0 0 (MQ below (QI shM idsM G A out) args s 0 0 A) (F0 m 228 ls [.int y0]) := by
  intro S x2 x3 x4 x6 y0 H locs ls hW hS hl h
  unfold j_X9_best_228 at h
  refine lv_istore (lv' := [(5, .int y0), (0, .ref (G.2.2 0 0)), (2, .int x2), (3, .int x3), (4, .int x4), (6, .int x6)]) F.1 F.2.1 dX9_best_228 hl (by decide) rfl (fun ls hl => ?_)
  obtain ⟨v_33, ev_33⟩ : ∃ y : Int32, y = x6 + 1 := ⟨_, rfl⟩
  have h := lt_n ev_33 h
  refine lv_iinc (v := v_33) (lv' := [(6, .int v_33), (5, .int y0), (0, .ref (G.2.2 0 0)), (2, .int x2), (3, .int x3), (4, .int x4)]) F.1 F.2.1 dX9_best_230 hl (k := 5) rfl (by rw [ev_33]; rfl) (by decide) rfl (fun ls hl => ?_)
  refine lv_goto (tgt := 14) F.1 F.2.1 dX9_best_233 (by decide) ?_
  exact Kb _ _ _ _ _ _ _ _ _  hW hS (lv_sub hl [2, 3, 4, 5, 1, 0] rfl) h
set_option maxHeartbeats 4000000 in
set_option maxRecDepth 100000 in
theorem w_X9_best_226 {p : Program} {l : Launch} {e : Env} {s : State} {m : MethodId} {args : Array Value} {below : List Frame} {meth : Method} {c : Code} {G : GT} {A : Nat → Prop} (F : CallFix p m c cX9_best 8 s args wsX9_best RX9) (hr : meth.sig.returnType = (some .int)) (hlk : meth.locks = false) (hK : va_K G.1 vwCl (tyl G) s) (out : Int32 × St) (kb : St → Int32 → Int32 → Int32 → Int32 → Int32 → Option (Int32 × St)) (Kb : ∀ (S : St) (x2 : Int32) (x3 : Int32) (x4 : Int32) (x5 : Int32) (x6 : Int32) (H : Heap) (locs : List Loc) (ls : Array Slot), Wd shM idsM G A S H → va_S A s.heap H locs → lv_has ls 8 [(0, .ref (G.2.2 0 0)), (2, .int x2), (3, .int x3), (4, .int x4), (5, .int x5), (6, .int x6)] → kb S x2 x3 x4 x5 x6 = some out → W p l e rm_X9_best s m args below meth c H locs 0 0 (MQ below (QI shM idsM G A out) args s 0 0 A) (F0 m 14 ls [])) : ∀ (S : St) (x2 : Int32) (x3 : Int32) (x4 : Int32) (x5 : Int32) (x6 : Int32) (H : Heap) (locs : List Loc) (ls : Array Slot), Wd shM idsM G A S H → va_S A s.heap H locs → lv_has ls 8 [(0, .ref (G.2.2 0 0)), (2, .int x2), (3, .int x3), (4, .int x4), (5, .int x5), (6, .int x6)] → j_X9_best_226 kb S x2 x3 x4 x5 x6 = some out → W p l e rm_X9_best s m args below meth c H locs 0 0 (MQ below (QI shM idsM G A out) args s 0 0 A) (F0 m 226 ls []) := by
  intro S x2 x3 x4 x5 x6 H locs ls hW hS hl h
  unfold j_X9_best_226 at h
  refine lv_iload F.1 F.2.1 dX9_best_226 (lv_at hl 4 rfl) ?_
  exact w_X9_best_228 F hr hlk hK out kb Kb _ _ _ _ _ _ _ _ _  hW hS (lv_sub hl [0, 1, 2, 3, 5] rfl) h
set_option maxHeartbeats 4000000 in
set_option maxRecDepth 100000 in
theorem w_X9_best_191 {p : Program} {l : Launch} {e : Env} {s : State} {m : MethodId} {args : Array Value} {below : List Frame} {meth : Method} {c : Code} {G : GT} {A : Nat → Prop} (F : CallFix p m c cX9_best 8 s args wsX9_best RX9) (hr : meth.sig.returnType = (some .int)) (hlk : meth.locks = false) (hK : va_K G.1 vwCl (tyl G) s) (out : Int32 × St) (kb : St → Int32 → Int32 → Int32 → Int32 → Int32 → Option (Int32 × St)) (Kb : ∀ (S : St) (x2 : Int32) (x3 : Int32) (x4 : Int32) (x5 : Int32) (x6 : Int32) (H : Heap) (locs : List Loc) (ls : Array Slot), Wd shM idsM G A S H → va_S A s.heap H locs → lv_has ls 8 [(0, .ref (G.2.2 0 0)), (2, .int x2), (3, .int x3), (4, .int x4), (5, .int x5), (6, .int x6)] → kb S x2 x3 x4 x5 x6 = some out → W p l e rm_X9_best s m args below meth c H locs 0 0 (MQ below (QI shM idsM G A out) args s 0 0 A) (F0 m 14 ls [])) : ∀ (S : St) (x2 : Int32) (x3 : Int32) (x4 : Int32) (x5 : Int32) (x6 : Int32) (H : Heap) (locs : List Loc) (ls : Array Slot), Wd shM idsM G A S H → va_S A s.heap H locs → lv_has ls 8 [(0, .ref (G.2.2 0 0)), (2, .int x2), (3, .int x3), (4, .int x4), (5, .int x5), (6, .int x6)] → j_X9_best_191 kb S x2 x3 x4 x5 x6 = some out → W p l e rm_X9_best s m args below meth c H locs 0 0 (MQ below (QI shM idsM G A out) args s 0 0 A) (F0 m 191 ls []) := by
  intro S x2 x3 x4 x5 x6 H locs ls hW hS hl h
  unfold j_X9_best_191 at h
  refine lv_iload F.1 F.2.1 dX9_best_191 (lv_at hl 4 rfl) ?_
  refine lv_bipush (v := -4) F.1 F.2.1 dX9_best_193 (by decide) ?_
  refine lv_icmp_ne (tgt := 226) F.1 F.2.1 dX9_best_195 (by decide) (fun c_32 => ?_) (fun c_32 => ?_)
  · have h := (if_neg c_32).symm.trans h
    exact w_X9_best_226 F hr hlk hK out kb Kb _ _ _ _ _ _ _ _ _  hW hS hl h
  · have h := (if_pos c_32).symm.trans h
    refine lv_aload_n F.1 F.2.1 dX9_best_198 rfl (lv_at hl 0 rfl) ?_
    refine rw_get (q0 := 0) F hK hW idM_0 rfl rfl in_X9_best_X9 18 (by decide) lk_X9_best_50 rfl dX9_best_199 ?_
    refine lv_iload F.1 F.2.1 dX9_best_202 (lv_at hl 5 rfl) ?_
    obtain ⟨b_34, h⟩ := gd_some h
    refine rw_zald (q0 := 14) F hK hW idM_14 (fun _ => rfl) (ix_in b_34) dX9_best_204 ?_
    refine lv_topi (fun v_35 ev_35 => ?_)
    have h := lt_n ev_35 h
    refine lv_if_eq (tgt := 226) F.1 F.2.1 dX9_best_205 (by decide) (fun c_36 => ?_) (fun c_36 => ?_)
    · have h := (if_pos c_36).symm.trans h
      exact w_X9_best_226 F hr hlk hK out kb Kb _ _ _ _ _ _ _ _ _  hW hS hl h
    · have h := (if_neg c_36).symm.trans h
      refine lv_aload_n F.1 F.2.1 dX9_best_208 rfl (lv_at hl 0 rfl) ?_
      refine rw_get (q0 := 0) F hK hW idM_0 rfl rfl in_X9_best_X9 41 (by decide) lk_X9_best_98 rfl dX9_best_209 ?_
      refine lv_iload F.1 F.2.1 dX9_best_212 (lv_at hl 3 rfl) ?_
      refine lv_iload F.1 F.2.1 dX9_best_214 (lv_at hl 5 rfl) ?_
      refine lv_iadd F.1 F.2.1 dX9_best_216 ?_
      obtain ⟨b_37, h⟩ := gd_some h
      refine rw_zald (q0 := 30) F hK hW idM_30 (fun _ => rfl) (ix_in b_37) dX9_best_217 ?_
      refine lv_topi (fun v_38 ev_38 => ?_)
      have h := lt_n ev_38 h
      refine lv_if_ne (tgt := 226) F.1 F.2.1 dX9_best_218 (by decide) (fun c_39 => ?_) (fun c_39 => ?_)
      · have h := (if_neg c_39).symm.trans h
        exact w_X9_best_226 F hr hlk hK out kb Kb _ _ _ _ _ _ _ _ _  hW hS hl h
      · have h := (if_pos c_39).symm.trans h
        refine lv_iload F.1 F.2.1 dX9_best_221 (lv_at hl 5 rfl) ?_
        refine lv_goto (tgt := 228) F.1 F.2.1 dX9_best_223 (by decide) ?_
        exact w_X9_best_228 F hr hlk hK out kb Kb _ _ _ _ _ _ _ _ _  hW hS (lv_sub hl [0, 1, 2, 3, 5] rfl) h
set_option maxHeartbeats 4000000 in
set_option maxRecDepth 100000 in
theorem w_X9_best_57 {p : Program} {l : Launch} {e : Env} {s : State} {m : MethodId} {args : Array Value} {below : List Frame} {meth : Method} {c : Code} {G : GT} {A : Nat → Prop} (F : CallFix p m c cX9_best 8 s args wsX9_best RX9) (hr : meth.sig.returnType = (some .int)) (hlk : meth.locks = false) (hK : va_K G.1 vwCl (tyl G) s) (out : Int32 × St) (kb : St → Int32 → Int32 → Int32 → Int32 → Int32 → Option (Int32 × St)) (Kb : ∀ (S : St) (x2 : Int32) (x3 : Int32) (x4 : Int32) (x5 : Int32) (x6 : Int32) (H : Heap) (locs : List Loc) (ls : Array Slot), Wd shM idsM G A S H → va_S A s.heap H locs → lv_has ls 8 [(0, .ref (G.2.2 0 0)), (2, .int x2), (3, .int x3), (4, .int x4), (5, .int x5), (6, .int x6)] → kb S x2 x3 x4 x5 x6 = some out → W p l e rm_X9_best s m args below meth c H locs 0 0 (MQ below (QI shM idsM G A out) args s 0 0 A) (F0 m 14 ls [])) : ∀ (S : St) (x2 : Int32) (x3 : Int32) (x4 : Int32) (x5 : Int32) (x6 : Int32) (y1 : Int32) (y2 : Int32) (H : Heap) (locs : List Loc) (ls : Array Slot), Wd shM idsM G A S H → va_S A s.heap H locs → lv_has ls 8 [(0, .ref (G.2.2 0 0)), (2, .int x2), (3, .int x3), (4, .int x4), (5, .int x5), (6, .int x6)] → j_X9_best_57 kb S x2 x3 x4 x5 x6 y1 y2 = some out → W p l e rm_X9_best s m args below meth c H locs 0 0 (MQ below (QI shM idsM G A out) args s 0 0 A) (F0 m 57 ls [.int y2, .int y1, .ref (G.2.2 30 0)]) := by
  intro S x2 x3 x4 x5 x6 y1 y2 H locs ls hW hS hl h
  unfold j_X9_best_57 at h
  obtain ⟨b_6, h⟩ := gd_some h
  refine rw_zast ndM (q0 := 30) F hK hW hS idM_30 (fun _ => rfl) (ix_in b_6) dX9_best_57 (fun H locs S_7 eS_7 hW hS => ?_)
  have h := lt_n eS_7 h
  refine lv_aload_n F.1 F.2.1 dX9_best_58 rfl (lv_at hl 0 rfl) ?_
  refine rw_get (q0 := 0) F hK hW idM_0 rfl rfl in_X9_best_X9 42 (by decide) lk_X9_best_101 rfl dX9_best_59 ?_
  refine lv_iload F.1 F.2.1 dX9_best_62 (lv_at hl 3 rfl) ?_
  refine lv_iload F.1 F.2.1 dX9_best_64 (lv_at hl 5 rfl) ?_
  refine lv_iadd F.1 F.2.1 dX9_best_66 ?_
  refine lv_iconst (v := 0) F.1 F.2.1 dX9_best_67 (by decide) ?_
  obtain ⟨b_8, h⟩ := gd_some h
  refine rw_iast ndM (q0 := 31) F hK hW hS idM_31 (fun _ => rfl) (ix_in b_8) dX9_best_68 (fun H locs S_9 eS_9 hW hS => ?_)
  have h := lt_n eS_9 h
  refine lv_aload_n F.1 F.2.1 dX9_best_69 rfl (lv_at hl 0 rfl) ?_
  refine rw_get (q0 := 0) F hK hW idM_0 rfl rfl in_X9_best_X9 43 (by decide) lk_X9_best_104 rfl dX9_best_70 ?_
  refine lv_iload F.1 F.2.1 dX9_best_73 (lv_at hl 3 rfl) ?_
  refine lv_iload F.1 F.2.1 dX9_best_75 (lv_at hl 5 rfl) ?_
  refine lv_iadd F.1 F.2.1 dX9_best_77 ?_
  refine lv_iconst (v := 0) F.1 F.2.1 dX9_best_78 (by decide) ?_
  obtain ⟨b_10, h⟩ := gd_some h
  refine rw_iast ndM (q0 := 32) F hK hW hS idM_32 (fun _ => rfl) (ix_in b_10) dX9_best_79 (fun H locs S_11 eS_11 hW hS => ?_)
  have h := lt_n eS_11 h
  refine lv_aload_n F.1 F.2.1 dX9_best_80 rfl (lv_at hl 0 rfl) ?_
  refine rw_get (q0 := 0) F hK hW idM_0 rfl rfl in_X9_best_X9 44 (by decide) lk_X9_best_107 rfl dX9_best_81 ?_
  refine lv_iload F.1 F.2.1 dX9_best_84 (lv_at hl 3 rfl) ?_
  refine lv_iload F.1 F.2.1 dX9_best_86 (lv_at hl 5 rfl) ?_
  refine lv_iadd F.1 F.2.1 dX9_best_88 ?_
  refine lv_bipush (v := -4) F.1 F.2.1 dX9_best_89 (by decide) ?_
  obtain ⟨b_12, h⟩ := gd_some h
  refine rw_iast ndM (q0 := 33) F hK hW hS idM_33 (fun _ => rfl) (ix_in b_12) dX9_best_91 (fun H locs S_13 eS_13 hW hS => ?_)
  have h := lt_n eS_13 h
  refine lv_iconst (v := 0) F.1 F.2.1 dX9_best_92 (by decide) ?_
  refine lv_istore (lv' := [(7, .int 0), (0, .ref (G.2.2 0 0)), (2, .int x2), (3, .int x3), (4, .int x4), (5, .int x5), (6, .int x6)]) F.1 F.2.1 dX9_best_93 hl (by decide) rfl (fun ls hl => ?_)
  refine w_X9_best_95 F hr hlk hK out _ ?_ 5000 _ _ _ _ _ _ _ _ _ _  hW hS (lv_sub hl [1, 2, 3, 4, 5, 6, 0] rfl) h
  · intro S x2 x3 x4 x5 x6 H locs ls hW hS hl h
    refine lv_iconst (v := 0) F.1 F.2.1 dX9_best_126 (by decide) ?_
    refine lv_istore (lv' := [(7, .int 0), (0, .ref (G.2.2 0 0)), (2, .int x2), (3, .int x3), (4, .int x4), (5, .int x5), (6, .int x6)]) F.1 F.2.1 dX9_best_127 hl (by decide) rfl (fun ls hl => ?_)
    refine w_X9_best_129 F hr hlk hK out _ ?_ 5000 _ _ _ _ _ _ _ _ _ _  hW hS (lv_sub hl [1, 2, 3, 4, 5, 6, 0] rfl) h
    · intro S x2 x3 x4 x5 x6 H locs ls hW hS hl h
      exact w_X9_best_191 F hr hlk hK out kb Kb _ _ _ _ _ _ _ _ _  hW hS hl h
set_option maxHeartbeats 4000000 in
set_option maxRecDepth 100000 in
theorem w_X9_best_56 {p : Program} {l : Launch} {e : Env} {s : State} {m : MethodId} {args : Array Value} {below : List Frame} {meth : Method} {c : Code} {G : GT} {A : Nat → Prop} (F : CallFix p m c cX9_best 8 s args wsX9_best RX9) (hr : meth.sig.returnType = (some .int)) (hlk : meth.locks = false) (hK : va_K G.1 vwCl (tyl G) s) (out : Int32 × St) (kb : St → Int32 → Int32 → Int32 → Int32 → Int32 → Option (Int32 × St)) (Kb : ∀ (S : St) (x2 : Int32) (x3 : Int32) (x4 : Int32) (x5 : Int32) (x6 : Int32) (H : Heap) (locs : List Loc) (ls : Array Slot), Wd shM idsM G A S H → va_S A s.heap H locs → lv_has ls 8 [(0, .ref (G.2.2 0 0)), (2, .int x2), (3, .int x3), (4, .int x4), (5, .int x5), (6, .int x6)] → kb S x2 x3 x4 x5 x6 = some out → W p l e rm_X9_best s m args below meth c H locs 0 0 (MQ below (QI shM idsM G A out) args s 0 0 A) (F0 m 14 ls [])) : ∀ (S : St) (x2 : Int32) (x3 : Int32) (x4 : Int32) (x5 : Int32) (x6 : Int32) (y1 : Int32) (H : Heap) (locs : List Loc) (ls : Array Slot), Wd shM idsM G A S H → va_S A s.heap H locs → lv_has ls 8 [(0, .ref (G.2.2 0 0)), (2, .int x2), (3, .int x3), (4, .int x4), (5, .int x5), (6, .int x6)] → j_X9_best_56 kb S x2 x3 x4 x5 x6 y1 = some out → W p l e rm_X9_best s m args below meth c H locs 0 0 (MQ below (QI shM idsM G A out) args s 0 0 A) (F0 m 56 ls [.int y1, .ref (G.2.2 30 0)]) := by
  intro S x2 x3 x4 x5 x6 y1 H locs ls hW hS hl h
  unfold j_X9_best_56 at h
  refine lv_iconst (v := 0) F.1 F.2.1 dX9_best_56 (by decide) ?_
  exact w_X9_best_57 F hr hlk hK out kb Kb _ _ _ _ _ _ _ _ _ _ _  hW hS hl h
set_option maxHeartbeats 4000000 in
set_option maxRecDepth 100000 in
theorem w_X9_best_14 {p : Program} {l : Launch} {e : Env} {s : State} {m : MethodId} {args : Array Value} {below : List Frame} {meth : Method} {c : Code} {G : GT} {A : Nat → Prop} (F : CallFix p m c cX9_best 8 s args wsX9_best RX9) (hr : meth.sig.returnType = (some .int)) (hlk : meth.locks = false) (hK : va_K G.1 vwCl (tyl G) s) (out : Int32 × St) : ∀ n : Nat, ∀ (S : St) (x2 : Int32) (x3 : Int32) (x4 : Int32) (x5 : Int32) (x6 : Int32) (H : Heap) (locs : List Loc) (ls : Array Slot), Wd shM idsM G A S H → va_S A s.heap H locs → lv_has ls 8 [(0, .ref (G.2.2 0 0)), (2, .int x2), (3, .int x3), (4, .int x4), (5, .int x5), (6, .int x6)] → l_X9_best_14 n S x2 x3 x4 x5 x6 = some out → W p l e rm_X9_best s m args below meth c H locs 0 0 (MQ below (QI shM idsM G A out) args s 0 0 A) (F0 m 14 ls []) := by
  intro n
  induction n with
  | zero =>
    intro S x2 x3 x4 x5 x6 H locs ls hW hS hl h
    cases h
  | succ n Kb =>
    generalize hkb : l_X9_best_14 n = kb at Kb
    intro S x2 x3 x4 x5 x6 H locs ls hW hS hl h
    rw [show l_X9_best_14 (n + 1) = b_X9_best_14 (l_X9_best_14 n) from rfl, hkb] at h
    unfold b_X9_best_14 at h
    refine lv_iload F.1 F.2.1 dX9_best_14 (lv_at hl 5 rfl) ?_
    refine lv_aload_n F.1 F.2.1 dX9_best_16 rfl (lv_at hl 0 rfl) ?_
    refine rw_get (q0 := 0) F hK hW idM_0 rfl rfl in_X9_best_X9 11 (by decide) lk_X9_best_163 rfl dX9_best_17 ?_
    refine lv_icmp_ge (tgt := 236) F.1 F.2.1 dX9_best_20 (by decide) (fun c_2 => ?_) (fun c_2 => ?_)
    · have h := (if_pos c_2).symm.trans h
      refine lv_iload F.1 F.2.1 dX9_best_236 (lv_at hl 4 rfl) ?_
      exact rw_ret F hr hlk hK hW hS h dX9_best_238
    · have h := (if_neg c_2).symm.trans h
      refine lv_aload_n F.1 F.2.1 dX9_best_23 rfl (lv_at hl 0 rfl) ?_
      refine rw_get (q0 := 0) F hK hW idM_0 rfl rfl in_X9_best_X9 41 (by decide) lk_X9_best_98 rfl dX9_best_24 ?_
      refine lv_iload F.1 F.2.1 dX9_best_27 (lv_at hl 3 rfl) ?_
      refine lv_iload F.1 F.2.1 dX9_best_29 (lv_at hl 5 rfl) ?_
      refine lv_iadd F.1 F.2.1 dX9_best_31 ?_
      refine lv_aload_n F.1 F.2.1 dX9_best_32 rfl (lv_at hl 0 rfl) ?_
      refine rw_get (q0 := 0) F hK hW idM_0 rfl rfl in_X9_best_X9 12 (by decide) lk_X9_best_31 rfl dX9_best_33 ?_
      refine lv_iload F.1 F.2.1 dX9_best_36 (lv_at hl 5 rfl) ?_
      obtain ⟨b_3, h⟩ := gd_some h
      refine rw_iald (q0 := 8) F hK hW idM_8 (fun _ => rfl) (ix_in b_3) dX9_best_38 ?_
      refine lv_topi (fun v_4 ev_4 => ?_)
      have h := lt_n ev_4 h
      refine lv_if_ne (tgt := 56) F.1 F.2.1 dX9_best_39 (by decide) (fun c_5 => ?_) (fun c_5 => ?_)
      · have h := (if_neg c_5).symm.trans h
        exact w_X9_best_56 F hr hlk hK out kb Kb _ _ _ _ _ _ _ _ _ _  hW hS hl h
      · have h := (if_pos c_5).symm.trans h
        refine lv_aload_n F.1 F.2.1 dX9_best_42 rfl (lv_at hl 0 rfl) ?_
        refine rw_get (q0 := 0) F hK hW idM_0 rfl rfl in_X9_best_X9 17 (by decide) lk_X9_best_46 rfl dX9_best_43 ?_
        refine lv_iload F.1 F.2.1 dX9_best_46 (lv_at hl 5 rfl) ?_
        obtain ⟨b_40, h⟩ := gd_some h
        refine rw_zald (q0 := 13) F hK hW idM_13 (fun _ => rfl) (ix_in b_40) dX9_best_48 ?_
        refine lv_topi (fun v_41 ev_41 => ?_)
        have h := lt_n ev_41 h
        refine lv_if_eq (tgt := 56) F.1 F.2.1 dX9_best_49 (by decide) (fun c_42 => ?_) (fun c_42 => ?_)
        · have h := (if_pos c_42).symm.trans h
          exact w_X9_best_56 F hr hlk hK out kb Kb _ _ _ _ _ _ _ _ _ _  hW hS hl h
        · have h := (if_neg c_42).symm.trans h
          refine lv_iconst (v := 1) F.1 F.2.1 dX9_best_52 (by decide) ?_
          refine lv_goto (tgt := 57) F.1 F.2.1 dX9_best_53 (by decide) ?_
          exact w_X9_best_57 F hr hlk hK out kb Kb _ _ _ _ _ _ _ _ _ _ _  hW hS hl h
set_option maxHeartbeats 4000000 in
set_option maxRecDepth 100000 in
theorem c_X9_best (l : Launch) (G : GT) (A : Nat → Prop) (a0 : Int32) (a1 : Int32) (a2 : Int32) (S : St) (out : Int32 × St) (h : f_X9_best a0 a1 a2 S = some out) : Met l yX9_best wsX9_best rm_X9_best (va_Pc [.ref (G.2.2 0 0), .int a0, .int a1, .int a2] (WD shM idsM G A S)) (QI shM idsM G A out) 0 0 A := by
  refine Met.ofW (cc := cX9_best) (maxL := 8) (ret := (some .int)) (by decide) rfl ?_
  intro p e s m args below meth c s₁ B hml hv
  obtain ⟨rfl, hW, hK⟩ := hv
  have F : CallFix p m c cX9_best 8 s _ wsX9_best RX9 := ⟨B.exec, B.bytes, hml, findClass_of_methodNamed B.named, atoms_spec (ws := wsX9_best) B.pre⟩
  have hr := B.returns
  have hlk := B.notSynchronized
  have hS : va_S A s.heap s.heap [] := va_S.rf
  have hl := lv_entry ([.ref (G.2.2 0 0), .int a0, .int a1, .int a2]) (n := 8) (Nat.le_of_ble_eq_true rfl)
  rw [lg_entry_eq]
  generalize (lg_sl ([.ref (G.2.2 0 0), .int a0, .int a1, .int a2]) ++ List.replicate (8 - (lg_sl ([.ref (G.2.2 0 0), .int a0, .int a1, .int a2])).length) Slot.unset).toArray = ls at hl ⊢
  have hl : lv_has ls 8 [(0, .ref (G.2.2 0 0)), (1, .int a0), (2, .int a1), (3, .int a2)] := hl
  unfold f_X9_best at h
  refine lv_sipush (v := 200) F.1 F.2.1 dX9_best_0 (by decide) ?_
  refine lv_iload_n F.1 F.2.1 dX9_best_3 rfl (lv_at hl 1 rfl) ?_
  refine lv_imul F.1 F.2.1 dX9_best_4 ?_
  refine lv_topi (fun v_1 ev_1 => ?_)
  have h := lt_n ev_1 h
  refine lv_istore (lv' := [(4, .int v_1), (0, .ref (G.2.2 0 0)), (1, .int a0), (2, .int a1), (3, .int a2)]) F.1 F.2.1 dX9_best_5 hl (by decide) rfl (fun ls hl => ?_)
  refine lv_bipush (v := -4) F.1 F.2.1 dX9_best_7 (by decide) ?_
  refine lv_istore (lv' := [(5, .int ((-4))), (4, .int v_1), (0, .ref (G.2.2 0 0)), (1, .int a0), (2, .int a1), (3, .int a2)]) F.1 F.2.1 dX9_best_9 hl (by decide) rfl (fun ls hl => ?_)
  refine lv_iconst (v := 0) F.1 F.2.1 dX9_best_11 (by decide) ?_
  refine lv_istore (lv' := [(6, .int 0), (5, .int ((-4))), (4, .int v_1), (0, .ref (G.2.2 0 0)), (1, .int a0), (2, .int a1), (3, .int a2)]) F.1 F.2.1 dX9_best_12 hl (by decide) rfl (fun ls hl => ?_)
  refine w_X9_best_14 F hr hlk hK out   5000 _ _ _ _ _ _ _ _ _  hW hS (lv_sub hl [3, 5, 6, 2, 1, 0] rfl) h
