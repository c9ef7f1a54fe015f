/-! CellCoverModel.in(JJJ)Z -/
abbrev rm_X9_in : Room := { frames := 0, cells := 0, slots := 0, locals := 0 }
set_option maxHeartbeats 4000000 in
set_option maxRecDepth 100000 in
theorem w_X9_in_18 {p : Program} {l : Launch} {e : Env} {s : State} {m : MethodId} {args : Array Value} {below : List Frame} {meth : Method} {c : Code} {G : GT} {A : Nat → Prop} (F : CallFix p m c cX9_in 6 s args wsX9_in RX9) (hr : meth.sig.returnType = (some .boolean)) (hlk : meth.locks = false) (hK : va_K G.1 vwCl (tyl G) s) (out : Int32 × St) : ∀ (S : St) (y0 : Int32) (H : Heap) (locs : List Loc) (ls : Array Slot), Wd shM idsM G A S H → va_S A s.heap H locs → lv_has ls 6 [] → j_X9_in_18 S y0 = some out → W p l e rm_X9_in s m args below meth c H locs 0 0 (MQ below (QI shM idsM G A out) args s 0 0 A) (F0 m 18 ls [.int y0]) := by
  intro S y0 H locs ls hW hS hl h
  unfold j_X9_in_18 at h
  obtain ⟨b_2, h⟩ := gd_some h
  exact rw_retz F hr hlk hK hW hS b_2 h dX9_in_18
set_option maxHeartbeats 4000000 in
set_option maxRecDepth 100000 in
theorem w_X9_in_17 {p : Program} {l : Launch} {e : Env} {s : State} {m : MethodId} {args : Array Value} {below : List Frame} {meth : Method} {c : Code} {G : GT} {A : Nat → Prop} (F : CallFix p m c cX9_in 6 s args wsX9_in RX9) (hr : meth.sig.returnType = (some .boolean)) (hlk : meth.locks = false) (hK : va_K G.1 vwCl (tyl G) s) (out : Int32 × St) : ∀ (S : St) (H : Heap) (locs : List Loc) (ls : Array Slot), Wd shM idsM G A S H → va_S A s.heap H locs → lv_has ls 6 [] → j_X9_in_17 S = some out → W p l e rm_X9_in s m args below meth c H locs 0 0 (MQ below (QI shM idsM G A out) args s 0 0 A) (F0 m 17 ls []) := by
  intro S H locs ls hW hS hl h
  unfold j_X9_in_17 at h
  refine lv_iconst (v := 0) F.1 F.2.1 dX9_in_17 (by decide) ?_
  exact w_X9_in_18 F hr hlk hK out  _ _ _ _ _  hW hS hl h
set_option maxHeartbeats 4000000 in
set_option maxRecDepth 100000 in
theorem c_X9_in (l : Launch) (G : GT) (A : Nat → Prop) (a0 : Int64) (a1 : Int64) (a2 : Int64) (S : St) (out : Int32 × St) (h : f_X9_in a0 a1 a2 S = some out) : Met l yX9_in wsX9_in rm_X9_in (va_Pc [.long a0, .long a1, .long a2] (WD shM idsM G A S)) (QI shM idsM G A out) 0 0 A := by
  refine Met.ofW (cc := cX9_in) (maxL := 6) (ret := (some .boolean)) (by decide) rfl ?_
  intro p e s m args below meth c s₁ B hml hv
  obtain ⟨rfl, hW, hK⟩ := hv
  have F : CallFix p m c cX9_in 6 s _ wsX9_in RX9 := ⟨B.exec, B.bytes, hml, findClass_of_methodNamed B.named, atoms_spec (ws := wsX9_in) B.pre⟩
  have hr := B.returns
  have hlk := B.notSynchronized
  have hS : va_S A s.heap s.heap [] := va_S.rf
  have hl := lv_entry ([.long a0, .long a1, .long a2]) (n := 6) (Nat.le_of_ble_eq_true rfl)
  rw [lg_entry_eq]
  generalize (lg_sl ([.long a0, .long a1, .long a2]) ++ List.replicate (6 - (lg_sl ([.long a0, .long a1, .long a2])).length) Slot.unset).toArray = ls at hl ⊢
  have hl : lv_has ls 6 [(0, .long a0), (2, .long a1), (4, .long a2)] := hl
  unfold f_X9_in at h
  refine lv_lload_n F.1 F.2.1 dX9_in_0 rfl (lv_at hl 0 rfl) ?_
  refine lv_lload_n F.1 F.2.1 dX9_in_1 rfl (lv_at hl 1 rfl) ?_
  refine W.lcmp F.1 F.2.1 dX9_in_2 ?_
  refine lv_if_lt (tgt := 17) F.1 F.2.1 dX9_in_3 (by decide) (fun c_1 => ?_) (fun c_1 => ?_)
  · have h := (if_pos c_1).symm.trans h
    exact w_X9_in_17 F hr hlk hK out  _ _ _ _  hW hS (lv_sub hl [] rfl) h
  · have h := (if_neg c_1).symm.trans h
    refine lv_lload_n F.1 F.2.1 dX9_in_6 rfl (lv_at hl 0 rfl) ?_
    refine lv_lload F.1 F.2.1 dX9_in_7 (lv_at hl 2 rfl) ?_
    refine W.lcmp F.1 F.2.1 dX9_in_9 ?_
    refine lv_if_gt (tgt := 17) F.1 F.2.1 dX9_in_10 (by decide) (fun c_3 => ?_) (fun c_3 => ?_)
    · have h := (if_pos c_3).symm.trans h
      exact w_X9_in_17 F hr hlk hK out  _ _ _ _  hW hS (lv_sub hl [] rfl) h
    · have h := (if_neg c_3).symm.trans h
      refine lv_iconst (v := 1) F.1 F.2.1 dX9_in_13 (by decide) ?_
      refine lv_goto (tgt := 18) F.1 F.2.1 dX9_in_14 (by decide) ?_
      exact w_X9_in_18 F hr hlk hK out  _ _ _ _ _  hW hS (lv_sub hl [] rfl) h
/-! CellCoverModel.did(II)V -/
abbrev rm_X9_did : Room := { frames := 0, cells := 0, slots := 0, locals := 0 }
theorem in_X9_did_X9 : ∀ w ∈ wsX90, w ∈ wsX9_did := by decide +kernel
theorem lk_X9_did_25 : Cond.fieldLink RX9 25 "CellCoverModel" "actWhat" "[I" ∈ wsX9_did := by decide +kernel
theorem lk_X9_did_128 : Cond.fieldLink RX9 128 "CellCoverModel" "acts" "I" ∈ wsX9_did := by decide +kernel
theorem lk_X9_did_28 : Cond.fieldLink RX9 28 "CellCoverModel" "actOn" "[I" ∈ wsX9_did := by decide +kernel
theorem lk_X9_did_132 : Cond.fieldLink RX9 132 "CellCoverModel" "hasCover" "Z" ∈ wsX9_did := by decide +kernel
set_option maxHeartbeats 4000000 in
set_option maxRecDepth 100000 in
theorem c_X9_did (l : Launch) (G : GT) (A : Nat → Prop) (a0 : Int32) (a1 : Int32) (S : St) (out : St) (h : f_X9_did a0 a1 S = some out) : Met l yX9_did wsX9_did rm_X9_did (va_Pc [.ref (G.2.2 0 0), .int a0, .int a1] (WD shM idsM G A S)) (QV shM idsM G A out) 0 0 A := by
  refine Met.ofW (cc := cX9_did) (maxL := 3) (ret := none) (by decide) rfl ?_
  intro p e s m args below meth c s₁ B hml hv
  obtain ⟨rfl, hW, hK⟩ := hv
  have F : CallFix p m c cX9_did 3 s _ wsX9_did RX9 := ⟨B.exec, B.bytes, hml, findClass_of_methodNamed B.named, atoms_spec (ws := wsX9_did) B.pre⟩
  have hr := B.returns
  have hlk := B.notSynchronized
  have hS : va_S A s.heap s.heap [] := va_S.rf
  have hl := lv_entry ([.ref (G.2.2 0 0), .int a0, .int a1]) (n := 3) (Nat.le_of_ble_eq_true rfl)
  rw [lg_entry_eq]
  generalize (lg_sl ([.ref (G.2.2 0 0), .int a0, .int a1]) ++ List.replicate (3 - (lg_sl ([.ref (G.2.2 0 0), .int a0, .int a1])).length) Slot.unset).toArray = ls at hl ⊢
  have hl : lv_has ls 3 [(0, .ref (G.2.2 0 0)), (1, .int a0), (2, .int a1)] := hl
  unfold f_X9_did at h
  refine lv_aload_n F.1 F.2.1 dX9_did_0 rfl (lv_at hl 0 rfl) ?_
  refine rw_get (q0 := 0) F hK hW idM_0 rfl rfl in_X9_did_X9 8 (by decide) lk_X9_did_25 rfl dX9_did_1 ?_
  refine lv_aload_n F.1 F.2.1 dX9_did_4 rfl (lv_at hl 0 rfl) ?_
  refine rw_get (q0 := 0) F hK hW idM_0 rfl rfl in_X9_did_X9 7 (by decide) lk_X9_did_128 rfl dX9_did_5 ?_
  refine lv_iload_n F.1 F.2.1 dX9_did_8 rfl (lv_at hl 1 rfl) ?_
  obtain ⟨b_1, h⟩ := gd_some h
  refine rw_iast ndM (q0 := 6) F hK hW hS idM_6 (fun _ => rfl) (ix_in b_1) dX9_did_9 (fun H locs S_2 eS_2 hW hS => ?_)
  have h := lt_n eS_2 h
  refine lv_aload_n F.1 F.2.1 dX9_did_10 rfl (lv_at hl 0 rfl) ?_
  refine rw_get (q0 := 0) F hK hW idM_0 rfl rfl in_X9_did_X9 9 (by decide) lk_X9_did_28 rfl dX9_did_11 ?_
  refine lv_aload_n F.1 F.2.1 dX9_did_14 rfl (lv_at hl 0 rfl) ?_
  refine rw_get (q0 := 0) F hK hW idM_0 rfl rfl in_X9_did_X9 7 (by decide) lk_X9_did_128 rfl dX9_did_15 ?_
  refine lv_iload_n F.1 F.2.1 dX9_did_18 rfl (lv_at hl 2 rfl) ?_
  obtain ⟨b_3, h⟩ := gd_some h
  refine rw_iast ndM (q0 := 7) F hK hW hS idM_7 (fun _ => rfl) (ix_in b_3) dX9_did_19 (fun H locs S_4 eS_4 hW hS => ?_)
  have h := lt_n eS_4 h
  refine lv_aload_n F.1 F.2.1 dX9_did_20 rfl (lv_at hl 0 rfl) ?_
  refine lv_dup F.1 F.2.1 dX9_did_21 rfl ?_
  refine rw_get (q0 := 0) F hK hW idM_0 rfl rfl in_X9_did_X9 7 (by decide) lk_X9_did_128 rfl dX9_did_22 ?_
  refine lv_iconst (v := 1) F.1 F.2.1 dX9_did_25 (by decide) ?_
  refine lv_iadd F.1 F.2.1 dX9_did_26 ?_
  refine rw_put ndM (q0 := 0) (x := (S_4 0 0 7) + 1) F hK hW hS idM_0 rfl rfl in_X9_did_X9 tyX9 tyX9_ok nmX9 7 (by decide) lk_X9_did_128 rfl (ty := .int) (by decide +kernel) rfl rfl (Nat.le_of_ble_eq_true rfl) rfl dX9_did_27 (fun H locs S_5 eS_5 hW hS => ?_)
  have h := lt_n eS_5 h
  refine lv_aload_n F.1 F.2.1 dX9_did_30 rfl (lv_at hl 0 rfl) ?_
  refine lv_iconst (v := 0) F.1 F.2.1 dX9_did_31 (by decide) ?_
  refine rw_put ndM (q0 := 0) (x := 0) F hK hW hS idM_0 rfl rfl in_X9_did_X9 tyX9 tyX9_ok nmX9 10 (by decide) lk_X9_did_132 rfl (ty := .boolean) (by decide +kernel) (by decide) (by decide) (Nat.le_of_ble_eq_true rfl) rfl dX9_did_32 (fun H locs S_6 eS_6 hW hS => ?_)
  have h := lt_n eS_6 h
  exact rw_retv F hr hlk hK hW hS h dX9_did_35
/-! CellCoverModel.isNode(I)Z -/
abbrev rm_X9_isNode : Room := { frames := 1, cells := 0, slots := 0, locals := 25 }
theorem in_X9_isNode_X9 : ∀ w ∈ wsX90, w ∈ wsX9_isNode := by decide +kernel
theorem lk_X9_isNode_136 : Cond.fieldLink RX9 136 "CellCoverModel" "nodes" "I" ∈ wsX9_isNode := by decide +kernel
set_option maxHeartbeats 4000000 in
set_option maxRecDepth 100000 in
theorem c_X9_isNode (l : Launch) (G : GT) (A : Nat → Prop) (a0 : Int32) (S : St) (out : Int32 × St) (h : f_X9_isNode a0 S = some out) : Met l yX9_isNode wsX9_isNode rm_X9_isNode (va_Pc [.ref (G.2.2 0 0), .int a0] (WD shM idsM G A S)) (QI shM idsM G A out) 0 0 A := by
  refine Met.ofW (cc := cX9_isNode) (maxL := 2) (ret := (some .boolean)) (by decide) rfl ?_
  intro p e s m args below meth c s₁ B hml hv
  obtain ⟨rfl, hW, hK⟩ := hv
  have F : CallFix p m c cX9_isNode 2 s _ wsX9_isNode RX9 := ⟨B.exec, B.bytes, hml, findClass_of_methodNamed B.named, atoms_spec (ws := wsX9_isNode) B.pre⟩
  have hr := B.returns
  have hlk := B.notSynchronized
  have hS : va_S A s.heap s.heap [] := va_S.rf
  have hl := lv_entry ([.ref (G.2.2 0 0), .int a0]) (n := 2) (Nat.le_of_ble_eq_true rfl)
  rw [lg_entry_eq]
  generalize (lg_sl ([.ref (G.2.2 0 0), .int a0]) ++ List.replicate (2 - (lg_sl ([.ref (G.2.2 0 0), .int a0])).length) Slot.unset).toArray = ls at hl ⊢
  have hl : lv_has ls 2 [(0, .ref (G.2.2 0 0)), (1, .int a0)] := hl
  unfold f_X9_isNode at h
  refine lv_iload_n F.1 F.2.1 dX9_isNode_0 rfl (lv_at hl 1 rfl) ?_
  refine lv_i2l (v := a0.toInt64) F.1 F.2.1 dX9_isNode_1 rfl ?_
  refine lv_lconst (v := 0) F.1 F.2.1 dX9_isNode_2 (by decide) ?_
  refine lv_aload_n F.1 F.2.1 dX9_isNode_3 rfl (lv_at hl 0 rfl) ?_
  refine rw_get (q0 := 0) F hK hW idM_0 rfl rfl in_X9_isNode_X9 0 (by decide) lk_X9_isNode_136 rfl dX9_isNode_4 ?_
  refine lv_iconst (v := 1) F.1 F.2.1 dX9_isNode_7 (by decide) ?_
  refine lv_isub F.1 F.2.1 dX9_isNode_8 ?_
  refine lv_i2l (v := ((S 0 0 0) - 1).toInt64) F.1 F.2.1 dX9_isNode_9 rfl ?_
  obtain ⟨r_2, S_3, hq_1, h⟩ := bi_some h
  refine rw_si F hK hW hS [.long a0.toInt64, .long 0, .long (((S 0 0 0) - 1).toInt64)] (rest := []) (c_X9_in l G A a0.toInt64 0 (((S 0 0 0) - 1).toInt64) S (r_2, S_3) hq_1) (va_cwS 3 F.2.2.2.2 gX9_isNode_X9_in rfl rfl rfl (by decide +kernel) ⟨Nat.le_of_ble_eq_true rfl, Nat.le_of_ble_eq_true rfl⟩) rfl hl.1 rfl (Nat.le_of_ble_eq_true rfl) dX9_isNode_10 (fun H locs hW hS => ?_)
  obtain ⟨b_4, h⟩ := gd_some h
  exact rw_retz F hr hlk hK hW hS b_4 h dX9_isNode_13
/-! CellCoverModel.vertexAt(III)I -/
abbrev rm_X9_vertexAt : Room := { frames := 0, cells := 0, slots := 0, locals := 0 }
theorem in_X9_vertexAt_X9 : ∀ w ∈ wsX90, w ∈ wsX9_vertexAt := by decide +kernel
theorem lk_X9_vertexAt_163 : Cond.fieldLink RX9 163 "CellCoverModel" "vertices" "I" ∈ wsX9_vertexAt := by decide +kernel
theorem lk_X9_vertexAt_34 : Cond.fieldLink RX9 34 "CellCoverModel" "vOne" "[I" ∈ wsX9_vertexAt := by decide +kernel
theorem lk_X9_vertexAt_31 : Cond.fieldLink RX9 31 "CellCoverModel" "vWhat" "[I" ∈ wsX9_vertexAt := by decide +kernel
theorem lk_X9_vertexAt_37 : Cond.fieldLink RX9 37 "CellCoverModel" "vTwo" "[I" ∈ wsX9_vertexAt := by decide +kernel
set_option maxHeartbeats 4000000 in
set_option maxRecDepth 100000 in
theorem w_X9_vertexAt_91 {p : Program} {l : Launch} {e : Env} {s : State} {m : MethodId} {args : Array Value} {below : List Frame} {meth : Method} {c : Code} {G : GT} {A : Nat → Prop} (F : CallFix p m c cX9_vertexAt 6 s args wsX9_vertexAt RX9) (hr : meth.sig.returnType = (some .int)) (hlk : meth.locks = false) (hK : va_K G.1 vwCl (tyl G) s) (out : Int32 × St) (kb : St → Int32 → Int32 → Int32 → Int32 → Option (Int32 × St)) (k97 : St → Int32 → Int32 → Int32 → Option (Int32 × St)) (Kb : ∀ (S : St) (x1 : Int32) (x2 : Int32) (x3 : Int32) (x4 : Int32) (H : Heap) (locs : List Loc) (ls : Array Slot), Wd shM idsM G A S H → va_S A s.heap H locs → lv_has ls 6 [(0, .ref (G.2.2 0 0)), (1, .int x1), (2, .int x2), (3, .int x3), (4, .int x4)] → kb S x1 x2 x3 x4 = some out → W p l e rm_X9_vertexAt s m args below meth c H locs 0 0 (MQ below (QI shM idsM G A out) args s 0 0 A) (F0 m 3 ls [])) (K97 : ∀ (S : St) (x1 : Int32) (x2 : Int32) (x3 : Int32) (H : Heap) (locs : List Loc) (ls : Array Slot), Wd shM idsM G A S H → va_S A s.heap H locs → lv_has ls 6 [(0, .ref (G.2.2 0 0)), (1, .int x1), (2, .int x2), (3, .int x3)] → k97 S x1 x2 x3 = some out → W p l e rm_X9_vertexAt s m args below meth c H locs 0 0 (MQ below (QI shM idsM G A out) args s 0 0 A) (F0 m 97 ls [])) : ∀ (S : St) (x1 : Int32) (x2 : Int32) (x3 : Int32) (x4 : Int32) (H : Heap) (locs : List Loc) (ls : Array Slot), Wd shM idsM G A S H → va_S A s.heap H locs → lv_has ls 6 [(0, .ref (G.2.2 0 0)), (1, .int x1), (2, .int x2), (3, .int x3), (4, .int x4)] → j_X9_vertexAt_91 kb k97 S x1 x2 x3 x4 = some out → W p l e rm_X9_vertexAt s m args below meth c H locs 0 0 (MQ below (QI shM idsM G A out) args s 0 0 A) (F0 m 91 ls []) := by
  intro S x1 x2 x3 x4 H locs ls hW hS hl h
  unfold j_X9_vertexAt_91 at h
  obtain ⟨v_10, ev_10⟩ : ∃ y : Int32, y = x4 + 1 := ⟨_, rfl⟩
  have h := lt_n ev_10 h
  refine lv_iinc (v := v_10) (lv' := [(4, .int v_10), (0, .ref (G.2.2 0 0)), (1, .int x1), (2, .int x2), (3, .int x3)]) F.1 F.2.1 dX9_vertexAt_91 hl (k := 4) rfl (by rw [ev_10]; rfl) (by decide) rfl (fun ls hl => ?_)
  refine lv_goto (tgt := 3) F.1 F.2.1 dX9_vertexAt_94 (by decide) ?_
  exact Kb _ _ _ _ _ _ _ _  hW hS (lv_sub hl [1, 2, 3, 4, 0] rfl) h
set_option maxHeartbeats 4000000 in
set_option maxRecDepth 100000 in
theorem w_X9_vertexAt_70 {p : Program} {l : Launch} {e : Env} {s : State} {m : MethodId} {args : Array Value} {below : List Frame} {meth : Method} {c : Code} {G : GT} {A : Nat → Prop} (F : CallFix p m c cX9_vertexAt 6 s args wsX9_vertexAt RX9) (hr : meth.sig.returnType = (some .int)) (hlk : meth.locks = false) (hK : va_K G.1 vwCl (tyl G) s) (out : Int32 × St) (kb : St → Int32 → Int32 → Int32 → Int32 → Option (Int32 × St)) (k97 : St → Int32 → Int32 → Int32 → Option (Int32 × St)) (Kb : ∀ (S : St) (x1 : Int32) (x2 : Int32) (x3 : Int32) (x4 : Int32) (H : Heap) (locs : List Loc) (ls : Array Slot), Wd shM idsM G A S H → va_S A s.heap H locs → lv_has ls 6 [(0, .ref (G.2.2 0 0)), (1, .int x1), (2, .int x2), (3, .int x3), (4, .int x4)] → kb S x1 x2 x3 x4 = some out → W p l e rm_X9_vertexAt s m args below meth c H locs 0 0 (MQ below (QI shM idsM G A out) args s 0 0 A) (F0 m 3 ls [])) (K97 : ∀ (S : St) (x1 : Int32) (x2 : Int32) (x3 : Int32) (H : Heap) (locs : List Loc) (ls : Array Slot), Wd shM idsM G A S H → va_S A s.heap H locs → lv_has ls 6 [(0, .ref (G.2.2 0 0)), (1, .int x1), (2, .int x2), (3, .int x3)] → k97 S x1 x2 x3 = some out → W p l e rm_X9_vertexAt s m args below meth c H locs 0 0 (MQ below (QI shM idsM G A out) args s 0 0 A) (F0 m 97 ls [])) : ∀ (S : St) (x1 : Int32) (x2 : Int32) (x3 : Int32) (x4 : Int32) (y0 : Int32) (H : Heap) (locs : List Loc) (ls : Array Slot), Wd shM idsM G A S H → va_S A s.heap H locs → lv_has ls 6 [(0, .ref (G.2.2 0 0)), (1, .int x1), (2, .int x2), (3, .int x3), (4, .int x4)] → j_X9_vertexAt_70 kb k97 S x1 x2 x3 x4 y0 = some out → W p l e rm_X9_vertexAt s m args below meth c H locs 0 0 (MQ below (QI shM idsM G A out) args s 0 0 A) (F0 m 70 ls [.int y0]) := by
  intro S x1 x2 x3 x4 y0 H locs ls hW hS hl h
  unfold j_X9_vertexAt_70 at h
  refine lv_istore (lv' := [(5, .int y0), (0, .ref (G.2.2 0 0)), (1, .int x1), (2, .int x2), (3, .int x3), (4, .int x4)]) F.1 F.2.1 dX9_vertexAt_70 hl (by decide) rfl (fun ls hl => ?_)
  refine lv_aload_n F.1 F.2.1 dX9_vertexAt_72 rfl (lv_at hl 1 rfl) ?_
  refine rw_get (q0 := 0) F hK hW idM_0 rfl rfl in_X9_vertexAt_X9 12 (by decide) lk_X9_vertexAt_31 rfl dX9_vertexAt_73 ?_
  refine lv_iload F.1 F.2.1 dX9_vertexAt_76 (lv_at hl 5 rfl) ?_
  obtain ⟨b_7, h⟩ := gd_some h
  refine rw_iald (q0 := 8) F hK hW idM_8 (fun _ => rfl) (ix_in b_7) dX9_vertexAt_78 ?_
  refine lv_topi (fun v_8 ev_8 => ?_)
  have h := lt_n ev_8 h
  refine lv_iload_n F.1 F.2.1 dX9_vertexAt_79 rfl (lv_at hl 2 rfl) ?_
  refine lv_icmp_ne (tgt := 91) F.1 F.2.1 dX9_vertexAt_80 (by decide) (fun c_9 => ?_) (fun c_9 => ?_)
  · have h := (if_neg c_9).symm.trans h
    exact w_X9_vertexAt_91 F hr hlk hK out kb k97 Kb K97 _ _ _ _ _ _ _ _  hW hS (lv_sub hl [1, 2, 3, 4, 5] rfl) h
  · have h := (if_pos c_9).symm.trans h
    refine lv_iload F.1 F.2.1 dX9_vertexAt_83 (lv_at hl 0 rfl) ?_
    refine lv_if_eq (tgt := 91) F.1 F.2.1 dX9_vertexAt_85 (by decide) (fun c_11 => ?_) (fun c_11 => ?_)
    · have h := (if_pos c_11).symm.trans h
      exact w_X9_vertexAt_91 F hr hlk hK out kb k97 Kb K97 _ _ _ _ _ _ _ _  hW hS (lv_sub hl [1, 2, 3, 4, 5] rfl) h
    · have h := (if_neg c_11).symm.trans h
      refine lv_iload F.1 F.2.1 dX9_vertexAt_88 (lv_at hl 5 rfl) ?_
      exact rw_ret F hr hlk hK hW hS h dX9_vertexAt_90
set_option maxHeartbeats 4000000 in
set_option maxRecDepth 100000 in
theorem w_X9_vertexAt_69 {p : Program} {l : Launch} {e : Env} {s : State} {m : MethodId} {args : Array Value} {below : List Frame} {meth : Method} {c : Code} {G : GT} {A : Nat → Prop} (F : CallFix p m c cX9_vertexAt 6 s args wsX9_vertexAt RX9) (hr : meth.sig.returnType = (some .int)) (hlk : meth.locks = false) (hK : va_K G.1 vwCl (tyl G) s) (out : Int32 × St) (kb : St → Int32 → Int32 → Int32 → Int32 → Option (Int32 × St)) (k97 : St → Int32 → Int32 → Int32 → Option (Int32 × St)) (Kb : ∀ (S : St) (x1 : Int32) (x2 : Int32) (x3 : Int32) (x4 : Int32) (H : Heap) (locs : List Loc) (ls : Array Slot), Wd shM idsM G A S H → va_S A s.heap H locs → lv_has ls 6 [(0, .ref (G.2.2 0 0)), (1, .int x1), (2, .int x2), (3, .int x3), (4, .int x4)] → kb S x1 x2 x3 x4 = some out → W p l e rm_X9_vertexAt s m args below meth c H locs 0 0 (MQ below (QI shM idsM G A out) args s 0 0 A) (F0 m 3 ls [])) (K97 : ∀ (S : St) (x1 : Int32) (x2 : Int32) (x3 : Int32) (H : Heap) (locs : List Loc) (ls : Array Slot), Wd shM idsM G A S H → va_S A s.heap H locs → lv_has ls 6 [(0, .ref (G.2.2 0 0)), (1, .int x1), (2, .int x2), (3, .int x3)] → k97 S x1 x2 x3 = some out → W p l e rm_X9_vertexAt s m args below meth c H locs 0 0 (MQ below (QI shM idsM G A out) args s 0 0 A) (F0 m 97 ls [])) : ∀ (S : St) (x1 : Int32) (x2 : Int32) (x3 : Int32) (x4 : Int32) (H : Heap) (locs : List Loc) (ls : Array Slot), Wd shM idsM G A S H → va_S A s.heap H locs → lv_has ls 6 [(0, .ref (G.2.2 0 0)), (1, .int x1), (2, .int x2), (3, .int x3), (4, .int x4)] → j_X9_vertexAt_69 kb k97 S x1 x2 x3 x4 = some out → W p l e rm_X9_vertexAt s m args below meth c H locs 0 0 (MQ below (QI shM idsM G A out) args s 0 0 A) (F0 m 69 ls []) := by
  intro S x1 x2 x3 x4 H locs ls hW hS hl h
  unfold j_X9_vertexAt_69 at h
  refine lv_iconst (v := 0) F.1 F.2.1 dX9_vertexAt_69 (by decide) ?_
  exact w_X9_vertexAt_70 F hr hlk hK out kb k97 Kb K97 _ _ _ _ _ _ _ _ _  hW hS hl h
set_option maxHeartbeats 4000000 in
set_option maxRecDepth 100000 in
theorem w_X9_vertexAt_65 {p : Program} {l : Launch} {e : Env} {s : State} {m : MethodId} {args : Array Value} {below : List Frame} {meth : Method} {c : Code} {G : GT} {A : Nat → Prop} (F : CallFix p m c cX9_vertexAt 6 s args wsX9_vertexAt RX9) (hr : meth.sig.returnType = (some .int)) (hlk : meth.locks = false) (hK : va_K G.1 vwCl (tyl G) s) (out : Int32 × St) (kb : St → Int32 → Int32 → Int32 → Int32 → Option (Int32 × St)) (k97 : St → Int32 → Int32 → Int32 → Option (Int32 × St)) (Kb : ∀ (S : St) (x1 : Int32) (x2 : Int32) (x3 : Int32) (x4 : Int32) (H : Heap) (locs : List Loc) (ls : Array Slot), Wd shM idsM G A S H → va_S A s.heap H locs → lv_has ls 6 [(0, .ref (G.2.2 0 0)), (1, .int x1), (2, .int x2), (3, .int x3), (4, .int x4)] → kb S x1 x2 x3 x4 = some out → W p l e rm_X9_vertexAt s m args below meth c H locs 0 0 (MQ below (QI shM idsM G A out) args s 0 0 A) (F0 m 3 ls [])) (K97 : ∀ (S : St) (x1 : Int32) (x2 : Int32) (x3 : Int32) (H : Heap) (locs : List Loc) (ls : Array Slot), Wd shM idsM G A S H → va_S A s.heap H locs → lv_has ls 6 [(0, .ref (G.2.2 0 0)), (1, .int x1), (2, .int x2), (3, .int x3)] → k97 S x1 x2 x3 = some out → W p l e rm_X9_vertexAt s m args below meth c H locs 0 0 (MQ below (QI shM idsM G A out) args s 0 0 A) (F0 m 97 ls [])) : ∀ (S : St) (x1 : Int32) (x2 : Int32) (x3 : Int32) (x4 : Int32) (H : Heap) (locs : List Loc) (ls : Array Slot), Wd shM idsM G A S H → va_S A s.heap H locs → lv_has ls 6 [(0, .ref (G.2.2 0 0)), (1, .int x1), (2, .int x2), (3, .int x3), (4, .int x4)] → j_X9_vertexAt_65 kb k97 S x1 x2 x3 x4 = some out → W p l e rm_X9_vertexAt s m args below meth c H locs 0 0 (MQ below (QI shM idsM G A out) args s 0 0 A) (F0 m 65 ls []) := by
  intro S x1 x2 x3 x4 H locs ls hW hS hl h
  unfold j_X9_vertexAt_65 at h
  refine lv_iconst (v := 1) F.1 F.2.1 dX9_vertexAt_65 (by decide) ?_
  refine lv_goto (tgt := 70) F.1 F.2.1 dX9_vertexAt_66 (by decide) ?_
  exact w_X9_vertexAt_70 F hr hlk hK out kb k97 Kb K97 _ _ _ _ _ _ _ _ _  hW hS hl h
set_option maxHeartbeats 4000000 in
set_option maxRecDepth 100000 in
theorem w_X9_vertexAt_38 {p : Program} {l : Launch} {e : Env} {s : State} {m : MethodId} {args : Array Value} {below : List Frame} {meth : Method} {c : Code} {G : GT} {A : Nat → Prop} (F : CallFix p m c cX9_vertexAt 6 s args wsX9_vertexAt RX9) (hr : meth.sig.returnType = (some .int)) (hlk : meth.locks = false) (hK : va_K G.1 vwCl (tyl G) s) (out : Int32 × St) (kb : St → Int32 → Int32 → Int32 → Int32 → Option (Int32 × St)) (k97 : St → Int32 → Int32 → Int32 → Option (Int32 × St)) (Kb : ∀ (S : St) (x1 : Int32) (x2 : Int32) (x3 : Int32) (x4 : Int32) (H : Heap) (locs : List Loc) (ls : Array Slot), Wd shM idsM G A S H → va_S A s.heap H locs → lv_has ls 6 [(0, .ref (G.2.2 0 0)), (1, .int x1), (2, .int x2), (3, .int x3), (4, .int x4)] → kb S x1 x2 x3 x4 = some out → W p l e rm_X9_vertexAt s m args below meth c H locs 0 0 (MQ below (QI shM idsM G A out) args s 0 0 A) (F0 m 3 ls [])) (K97 : ∀ (S : St) (x1 : Int32) (x2 : Int32) (x3 : Int32) (H : Heap) (locs : List Loc) (ls : Array Slot), Wd shM idsM G A S H → va_S A s.heap H locs → lv_has ls 6 [(0, .ref (G.2.2 0 0)), (1, .int x1), (2, .int x2), (3, .int x3)] → k97 S x1 x2 x3 = some out → W p l e rm_X9_vertexAt s m args below meth c H locs 0 0 (MQ below (QI shM idsM G A out) args s 0 0 A) (F0 m 97 ls [])) : ∀ (S : St) (x1 : Int32) (x2 : Int32) (x3 : Int32) (x4 : Int32) (H : Heap) (locs : List Loc) (ls : Array Slot), Wd shM idsM G A S H → va_S A s.heap H locs → lv_has ls 6 [(0, .ref (G.2.2 0 0)), (1, .int x1), (2, .int x2), (3, .int x3), (4, .int x4)] → j_X9_vertexAt_38 kb k97 S x1 x2 x3 x4 = some out → W p l e rm_X9_vertexAt s m args below meth c H locs 0 0 (MQ below (QI shM idsM G A out) args s 0 0 A) (F0 m 38 ls []) := by
  intro S x1 x2 x3 x4 H locs ls hW hS hl h
  unfold j_X9_vertexAt_38 at h
  refine lv_iload_n F.1 F.2.1 dX9_vertexAt_38 rfl (lv_at hl 1 rfl) ?_
  refine lv_iconst (v := 2) F.1 F.2.1 dX9_vertexAt_39 (by decide) ?_
  refine lv_icmp_ne (tgt := 69) F.1 F.2.1 dX9_vertexAt_40 (by decide) (fun c_6 => ?_) (fun c_6 => ?_)
  · have h := (if_neg c_6).symm.trans h
    exact w_X9_vertexAt_69 F hr hlk hK out kb k97 Kb K97 _ _ _ _ _ _ _ _  hW hS hl h
  · have h := (if_pos c_6).symm.trans h
    refine lv_aload_n F.1 F.2.1 dX9_vertexAt_43 rfl (lv_at hl 0 rfl) ?_
    refine rw_get (q0 := 0) F hK hW idM_0 rfl rfl in_X9_vertexAt_X9 13 (by decide) lk_X9_vertexAt_34 rfl dX9_vertexAt_44 ?_
    refine lv_iload F.1 F.2.1 dX9_vertexAt_47 (lv_at hl 4 rfl) ?_
    obtain ⟨b_12, h⟩ := gd_some h
    refine rw_iald (q0 := 9) F hK hW idM_9 (fun _ => rfl) (ix_in b_12) dX9_vertexAt_49 ?_
    refine lv_topi (fun v_13 ev_13 => ?_)
    have h := lt_n ev_13 h
    refine lv_iload_n F.1 F.2.1 dX9_vertexAt_50 rfl (lv_at hl 3 rfl) ?_
    refine lv_icmp_ne (tgt := 69) F.1 F.2.1 dX9_vertexAt_51 (by decide) (fun c_14 => ?_) (fun c_14 => ?_)
    · have h := (if_neg c_14).symm.trans h
      exact w_X9_vertexAt_69 F hr hlk hK out kb k97 Kb K97 _ _ _ _ _ _ _ _  hW hS hl h
    · have h := (if_pos c_14).symm.trans h
      refine lv_aload_n F.1 F.2.1 dX9_vertexAt_54 rfl (lv_at hl 0 rfl) ?_
      refine rw_get (q0 := 0) F hK hW idM_0 rfl rfl in_X9_vertexAt_X9 14 (by decide) lk_X9_vertexAt_37 rfl dX9_vertexAt_55 ?_
      refine lv_iload F.1 F.2.1 dX9_vertexAt_58 (lv_at hl 4 rfl) ?_
      obtain ⟨b_15, h⟩ := gd_some h
      refine rw_iald (q0 := 10) F hK hW idM_10 (fun _ => rfl) (ix_in b_15) dX9_vertexAt_60 ?_
      refine lv_topi (fun v_16 ev_16 => ?_)
      have h := lt_n ev_16 h
      refine lv_iload_n F.1 F.2.1 dX9_vertexAt_61 rfl (lv_at hl 2 rfl) ?_
      refine lv_icmp_ne (tgt := 69) F.1 F.2.1 dX9_vertexAt_62 (by decide) (fun c_17 => ?_) (fun c_17 => ?_)
      · have h := (if_neg c_17).symm.trans h
        exact w_X9_vertexAt_69 F hr hlk hK out kb k97 Kb K97 _ _ _ _ _ _ _ _  hW hS hl h
      · have h := (if_pos c_17).symm.trans h
        exact w_X9_vertexAt_65 F hr hlk hK out kb k97 Kb K97 _ _ _ _ _ _ _ _  hW hS hl h
set_option maxHeartbeats 4000000 in
set_option maxRecDepth 100000 in
theorem w_X9_vertexAt_3 {p : Program} {l : Launch} {e : Env} {s : State} {m : MethodId} {args : Array Value} {below : List Frame} {meth : Method} {c : Code} {G : GT} {A : Nat → Prop} (F : CallFix p m c cX9_vertexAt 6 s args wsX9_vertexAt RX9) (hr : meth.sig.returnType = (some .int)) (hlk : meth.locks = false) (hK : va_K G.1 vwCl (tyl G) s) (out : Int32 × St) (k97 : St → Int32 → Int32 → Int32 → Option (Int32 × St)) (K97 : ∀ (S : St) (x1 : Int32) (x2 : Int32) (x3 : Int32) (H : Heap) (locs : List Loc) (ls : Array Slot), Wd shM idsM G A S H → va_S A s.heap H locs → lv_has ls 6 [(0, .ref (G.2.2 0 0)), (1, .int x1), (2, .int x2), (3, .int x3)] → k97 S x1 x2 x3 = some out → W p l e rm_X9_vertexAt s m args below meth c H locs 0 0 (MQ below (QI shM idsM G A out) args s 0 0 A) (F0 m 97 ls [])) : ∀ n : Nat, ∀ (S : St) (x1 : Int32) (x2 : Int32) (x3 : Int32) (x4 : Int32) (H : Heap) (locs : List Loc) (ls : Array Slot), Wd shM idsM G A S H → va_S A s.heap H locs → lv_has ls 6 [(0, .ref (G.2.2 0 0)), (1, .int x1), (2, .int x2), (3, .int x3), (4, .int x4)] → l_X9_vertexAt_3 k97 n S x1 x2 x3 x4 = some out → W p l e rm_X9_vertexAt s m args below meth c H locs 0 0 (MQ below (QI shM idsM G A out) args s 0 0 A) (F0 m 3 ls []) := by
  intro n
  induction n with
  | zero =>
    intro S x1 x2 x3 x4 H locs ls hW hS hl h
    cases h
  | succ n Kb =>
    generalize hkb : l_X9_vertexAt_3 k97 n = kb at Kb
    intro S x1 x2 x3 x4 H locs ls hW hS hl h
    rw [show l_X9_vertexAt_3 k97 (n + 1) = b_X9_vertexAt_3 (l_X9_vertexAt_3 k97 n) k97 from rfl, hkb] at h
    unfold b_X9_vertexAt_3 at h
    refine lv_iload F.1 F.2.1 dX9_vertexAt_3 (lv_at hl 4 rfl) ?_
    refine lv_aload_n F.1 F.2.1 dX9_vertexAt_5 rfl (lv_at hl 0 rfl) ?_
    refine rw_get (q0 := 0) F hK hW idM_0 rfl rfl in_X9_vertexAt_X9 11 (by decide) lk_X9_vertexAt_163 rfl dX9_vertexAt_6 ?_
    refine lv_icmp_ge (tgt := 97) F.1 F.2.1 dX9_vertexAt_9 (by decide) (fun c_1 => ?_) (fun c_1 => ?_)
    · have h := (if_pos c_1).symm.trans h
      exact K97 _ _ _ _ _ _ _  hW hS (lv_sub hl [0, 1, 2, 3] rfl) h
    · have h := (if_neg c_1).symm.trans h
      refine lv_iload_n F.1 F.2.1 dX9_vertexAt_12 rfl (lv_at hl 1 rfl) ?_
      refine lv_if_le (tgt := 97) F.1 F.2.1 dX9_vertexAt_13 (by decide) (fun c_2 => ?_) (fun c_2 => ?_)
      · have h := (if_pos c_2).symm.trans h
        exact K97 _ _ _ _ _ _ _  hW hS (lv_sub hl [0, 1, 2, 3] rfl) h
      · have h := (if_neg c_2).symm.trans h
        refine lv_aload_n F.1 F.2.1 dX9_vertexAt_16 rfl (lv_at hl 0 rfl) ?_
        refine rw_get (q0 := 0) F hK hW idM_0 rfl rfl in_X9_vertexAt_X9 13 (by decide) lk_X9_vertexAt_34 rfl dX9_vertexAt_17 ?_
        refine lv_iload F.1 F.2.1 dX9_vertexAt_20 (lv_at hl 4 rfl) ?_
        obtain ⟨b_3, h⟩ := gd_some h
        refine rw_iald (q0 := 9) F hK hW idM_9 (fun _ => rfl) (ix_in b_3) dX9_vertexAt_22 ?_
        refine lv_topi (fun v_4 ev_4 => ?_)
        have h := lt_n ev_4 h
        refine lv_iload_n F.1 F.2.1 dX9_vertexAt_23 rfl (lv_at hl 2 rfl) ?_
        refine lv_icmp_ne (tgt := 38) F.1 F.2.1 dX9_vertexAt_24 (by decide) (fun c_5 => ?_) (fun c_5 => ?_)
        · have h := (if_neg c_5).symm.trans h
          exact w_X9_vertexAt_38 F hr hlk hK out kb k97 Kb K97 _ _ _ _ _ _ _ _  hW hS hl h
        · have h := (if_pos c_5).symm.trans h
          refine lv_aload_n F.1 F.2.1 dX9_vertexAt_27 rfl (lv_at hl 0 rfl) ?_
          refine rw_get (q0 := 0) F hK hW idM_0 rfl rfl in_X9_vertexAt_X9 14 (by decide) lk_X9_vertexAt_37 rfl dX9_vertexAt_28 ?_
          refine lv_iload F.1 F.2.1 dX9_vertexAt_31 (lv_at hl 4 rfl) ?_
          obtain ⟨b_18, h⟩ := gd_some h
          refine rw_iald (q0 := 10) F hK hW idM_10 (fun _ => rfl) (ix_in b_18) dX9_vertexAt_33 ?_
          refine lv_topi (fun v_19 ev_19 => ?_)
          have h := lt_n ev_19 h
          refine lv_iload_n F.1 F.2.1 dX9_vertexAt_34 rfl (lv_at hl 3 rfl) ?_
          refine lv_icmp_eq (tgt := 65) F.1 F.2.1 dX9_vertexAt_35 (by decide) (fun c_20 => ?_) (fun c_20 => ?_)
          · have h := (if_pos c_20).symm.trans h
            exact w_X9_vertexAt_65 F hr hlk hK out kb k97 Kb K97 _ _ _ _ _ _ _ _  hW hS hl h
          · have h := (if_neg c_20).symm.trans h
            exact w_X9_vertexAt_38 F hr hlk hK out kb k97 Kb K97 _ _ _ _ _ _ _ _  hW hS hl h
set_option maxHeartbeats 4000000 in
set_option maxRecDepth 100000 in
theorem w_X9_vertexAt_97 {p : Program} {l : Launch} {e : Env} {s : State} {m : MethodId} {args : Array Value} {below : List Frame} {meth : Method} {c : Code} {G : GT} {A : Nat → Prop} (F : CallFix p m c cX9_vertexAt 6 s args wsX9_vertexAt RX9) (hr : meth.sig.returnType = (some .int)) (hlk : meth.locks = false) (hK : va_K G.1 vwCl (tyl G) s) (out : Int32 × St) : ∀ (S : St) (x1 : Int32) (x2 : Int32) (x3 : Int32) (H : Heap) (locs : List Loc) (ls : Array Slot), Wd shM idsM G A S H → va_S A s.heap H locs → lv_has ls 6 [(0, .ref (G.2.2 0 0)), (1, .int x1), (2, .int x2), (3, .int x3)] → j_X9_vertexAt_97 S x1 x2 x3 = some out → W p l e rm_X9_vertexAt s m args below meth c H locs 0 0 (MQ below (QI shM idsM G A out) args s 0 0 A) (F0 m 97 ls []) := by
  intro S x1 x2 x3 H locs ls hW hS hl h
  unfold j_X9_vertexAt_97 at h
  refine lv_aload_n F.1 F.2.1 dX9_vertexAt_97 rfl (lv_at hl 0 rfl) ?_
  refine rw_get (q0 := 0) F hK hW idM_0 rfl rfl in_X9_vertexAt_X9 12 (by decide) lk_X9_vertexAt_31 rfl dX9_vertexAt_98 ?_
  refine lv_aload_n F.1 F.2.1 dX9_vertexAt_101 rfl (lv_at hl 0 rfl) ?_
  refine rw_get (q0 := 0) F hK hW idM_0 rfl rfl in_X9_vertexAt_X9 11 (by decide) lk_X9_vertexAt_163 rfl dX9_vertexAt_102 ?_
  refine lv_iload_n F.1 F.2.1 dX9_vertexAt_105 rfl (lv_at hl 1 rfl) ?_
  obtain ⟨b_21, h⟩ := gd_some h
  refine rw_iast ndM (q0 := 8) F hK hW hS idM_8 (fun _ => rfl) (ix_in b_21) dX9_vertexAt_106 (fun H locs S_22 eS_22 hW hS => ?_)
  have h := lt_n eS_22 h
  refine lv_aload_n F.1 F.2.1 dX9_vertexAt_107 rfl (lv_at hl 0 rfl) ?_
  refine rw_get (q0 := 0) F hK hW idM_0 rfl rfl in_X9_vertexAt_X9 13 (by decide) lk_X9_vertexAt_34 rfl dX9_vertexAt_108 ?_
  refine lv_aload_n F.1 F.2.1 dX9_vertexAt_111 rfl (lv_at hl 0 rfl) ?_
  refine rw_get (q0 := 0) F hK hW idM_0 rfl rfl in_X9_vertexAt_X9 11 (by decide) lk_X9_vertexAt_163 rfl dX9_vertexAt_112 ?_
  refine lv_iload_n F.1 F.2.1 dX9_vertexAt_115 rfl (lv_at hl 2 rfl) ?_
  obtain ⟨b_23, h⟩ := gd_some h
  refine rw_iast ndM (q0 := 9) F hK hW hS idM_9 (fun _ => rfl) (ix_in b_23) dX9_vertexAt_116 (fun H locs S_24 eS_24 hW hS => ?_)
  have h := lt_n eS_24 h
  refine lv_aload_n F.1 F.2.1 dX9_vertexAt_117 rfl (lv_at hl 0 rfl) ?_
  refine rw_get (q0 := 0) F hK hW idM_0 rfl rfl in_X9_vertexAt_X9 14 (by decide) lk_X9_vertexAt_37 rfl dX9_vertexAt_118 ?_
  refine lv_aload_n F.1 F.2.1 dX9_vertexAt_121 rfl (lv_at hl 0 rfl) ?_
  refine rw_get (q0 := 0) F hK hW idM_0 rfl rfl in_X9_vertexAt_X9 11 (by decide) lk_X9_vertexAt_163 rfl dX9_vertexAt_122 ?_
  refine lv_iload_n F.1 F.2.1 dX9_vertexAt_125 rfl (lv_at hl 3 rfl) ?_
  obtain ⟨b_25, h⟩ := gd_some h
  refine rw_iast ndM (q0 := 10) F hK hW hS idM_10 (fun _ => rfl) (ix_in b_25) dX9_vertexAt_126 (fun H locs S_26 eS_26 hW hS => ?_)
  have h := lt_n eS_26 h
  refine lv_aload_n F.1 F.2.1 dX9_vertexAt_127 rfl (lv_at hl 0 rfl) ?_
  refine lv_dup F.1 F.2.1 dX9_vertexAt_128 rfl ?_
  refine rw_get (q0 := 0) F hK hW idM_0 rfl rfl in_X9_vertexAt_X9 11 (by decide) lk_X9_vertexAt_163 rfl dX9_vertexAt_129 ?_
  refine lv_iconst (v := 1) F.1 F.2.1 dX9_vertexAt_132 (by decide) ?_
  refine lv_iadd F.1 F.2.1 dX9_vertexAt_133 ?_
  refine rw_put ndM (q0 := 0) (x := (S_26 0 0 11) + 1) F hK hW hS idM_0 rfl rfl in_X9_vertexAt_X9 tyX9 tyX9_ok nmX9 11 (by decide) lk_X9_vertexAt_163 rfl (ty := .int) (by decide +kernel) rfl rfl (Nat.le_of_ble_eq_true rfl) rfl dX9_vertexAt_134 (fun H locs S_27 eS_27 hW hS => ?_)
  have h := lt_n eS_27 h
  refine lv_aload_n F.1 F.2.1 dX9_vertexAt_137 rfl (lv_at hl 0 rfl) ?_
  refine rw_get (q0 := 0) F hK hW idM_0 rfl rfl in_X9_vertexAt_X9 11 (by decide) lk_X9_vertexAt_163 rfl dX9_vertexAt_138 ?_
  refine lv_iconst (v := 1) F.1 F.2.1 dX9_vertexAt_141 (by decide) ?_
  refine lv_isub F.1 F.2.1 dX9_vertexAt_142 ?_
  exact rw_ret F hr hlk hK hW hS h dX9_vertexAt_143
set_option maxHeartbeats 4000000 in
set_option maxRecDepth 100000 in
theorem c_X9_vertexAt (l : Launch) (G : GT) (A : Nat → Prop) (a0 : Int32) (a1 : Int32) (a2 : Int32) (S : St) (out : Int32 × St) (h : f_X9_vertexAt a0 a1 a2 S = some out) : Met l yX9_vertexAt wsX9_vertexAt rm_X9_vertexAt (va_Pc [.ref (G.2.2 0 0), .int a0, .int a1, .int a2] (WD shM idsM G A S)) (QI shM idsM G A out) 0 0 A := by
  refine Met.ofW (cc := cX9_vertexAt) (maxL := 6) (ret := (some .int)) (by decide) rfl ?_
  intro p e s m args below meth c s₁ B hml hv
  obtain ⟨rfl, hW, hK⟩ := hv
  have F : CallFix p m c cX9_vertexAt 6 s _ wsX9_vertexAt RX9 := ⟨B.exec, B.bytes, hml, findClass_of_methodNamed B.named, atoms_spec (ws := wsX9_vertexAt) B.pre⟩
  have hr := B.returns
  have hlk := B.notSynchronized
  have hS : va_S A s.heap s.heap [] := va_S.rf
  have hl := lv_entry ([.ref (G.2.2 0 0), .int a0, .int a1, .int a2]) (n := 6) (Nat.le_of_ble_eq_true rfl)
  rw [lg_entry_eq]
  generalize (lg_sl ([.ref (G.2.2 0 0), .int a0, .int a1, .int a2]) ++ List.replicate (6 - (lg_sl ([.ref (G.2.2 0 0), .int a0, .int a1, .int a2])).length) Slot.unset).toArray = ls at hl ⊢
  have hl : lv_has ls 6 [(0, .ref (G.2.2 0 0)), (1, .int a0), (2, .int a1), (3, .int a2)] := hl
  unfold f_X9_vertexAt at h
  refine lv_iconst (v := 0) F.1 F.2.1 dX9_vertexAt_0 (by decide) ?_
  refine lv_istore (lv' := [(4, .int 0), (0, .ref (G.2.2 0 0)), (1, .int a0), (2, .int a1), (3, .int a2)]) F.1 F.2.1 dX9_vertexAt_1 hl (by decide) rfl (fun ls hl => ?_)
  refine w_X9_vertexAt_3 F hr hlk hK out _ ?_ 5000 _ _ _ _ _ _ _ _  hW hS (lv_sub hl [1, 2, 3, 4, 0] rfl) h
  · intro S x1 x2 x3 H locs ls hW hS hl h
    exact w_X9_vertexAt_97 F hr hlk hK out  _ _ _ _ _ _ _  hW hS hl h
/-! CellCoverModel.inverse(I)I -/
abbrev rm_X9_inverse : Room := { frames := 1, cells := 0, slots := 0, locals := 25 }
theorem in_X9_inverse_X9 : ∀ w ∈ wsX90, w ∈ wsX9_inverse := by decide +kernel
theorem lk_X9_inverse_31 : Cond.fieldLink RX9 31 "CellCoverModel" "vWhat" "[I" ∈ wsX9_inverse := by decide +kernel
theorem lk_X9_inverse_34 : Cond.fieldLink RX9 34 "CellCoverModel" "vOne" "[I" ∈ wsX9_inverse := by decide +kernel
set_option maxHeartbeats 4000000 in
set_option maxRecDepth 100000 in
theorem w_X9_inverse_27 {p : Program} {l : Launch} {e : Env} {s : State} {m : MethodId} {args : Array Value} {below : List Frame} {meth : Method} {c : Code} {G : GT} {A : Nat → Prop} (F : CallFix p m c cX9_inverse 2 s args wsX9_inverse RX9) (hr : meth.sig.returnType = (some .int)) (hlk : meth.locks = false) (hK : va_K G.1 vwCl (tyl G) s) (out : Int32 × St) : ∀ (S : St) (y0 : Int32) (H : Heap) (locs : List Loc) (ls : Array Slot), Wd shM idsM G A S H → va_S A s.heap H locs → lv_has ls 2 [] → j_X9_inverse_27 S y0 = some out → W p l e rm_X9_inverse s m args below meth c H locs 0 0 (MQ below (QI shM idsM G A out) args s 0 0 A) (F0 m 27 ls [.int y0]) := by
  intro S y0 H locs ls hW hS hl h
  unfold j_X9_inverse_27 at h
  exact rw_ret F hr hlk hK hW hS h dX9_inverse_27
set_option maxHeartbeats 4000000 in
set_option maxRecDepth 100000 in
theorem c_X9_inverse (l : Launch) (G : GT) (A : Nat → Prop) (a0 : Int32) (S : St) (out : Int32 × St) (h : f_X9_inverse a0 S = some out) : Met l yX9_inverse wsX9_inverse rm_X9_inverse (va_Pc [.ref (G.2.2 0 0), .int a0] (WD shM idsM G A S)) (QI shM idsM G A out) 0 0 A := by
  refine Met.ofW (cc := cX9_inverse) (maxL := 2) (ret := (some .int)) (by decide) rfl ?_
  intro p e s m args below meth c s₁ B hml hv
  obtain ⟨rfl, hW, hK⟩ := hv
  have F : CallFix p m c cX9_inverse 2 s _ wsX9_inverse RX9 := ⟨B.exec, B.bytes, hml, findClass_of_methodNamed B.named, atoms_spec (ws := wsX9_inverse) B.pre⟩
  have hr := B.returns
  have hlk := B.notSynchronized
  have hS : va_S A s.heap s.heap [] := va_S.rf
  have hl := lv_entry ([.ref (G.2.2 0 0), .int a0]) (n := 2) (Nat.le_of_ble_eq_true rfl)
  rw [lg_entry_eq]
  generalize (lg_sl ([.ref (G.2.2 0 0), .int a0]) ++ List.replicate (2 - (lg_sl ([.ref (G.2.2 0 0), .int a0])).length) Slot.unset).toArray = ls at hl ⊢
  have hl : lv_has ls 2 [(0, .ref (G.2.2 0 0)), (1, .int a0)] := hl
  unfold f_X9_inverse at h
  refine lv_aload_n F.1 F.2.1 dX9_inverse_0 rfl (lv_at hl 0 rfl) ?_
  refine rw_get (q0 := 0) F hK hW idM_0 rfl rfl in_X9_inverse_X9 12 (by decide) lk_X9_inverse_31 rfl dX9_inverse_1 ?_
  refine lv_iload_n F.1 F.2.1 dX9_inverse_4 rfl (lv_at hl 1 rfl) ?_
  obtain ⟨b_1, h⟩ := gd_some h
  refine rw_iald (q0 := 8) F hK hW idM_8 (fun _ => rfl) (ix_in b_1) dX9_inverse_5 ?_
  refine lv_topi (fun v_2 ev_2 => ?_)
  have h := lt_n ev_2 h
  refine lv_iconst (v := 1) F.1 F.2.1 dX9_inverse_6 (by decide) ?_
  refine lv_icmp_ne (tgt := 19) F.1 F.2.1 dX9_inverse_7 (by decide) (fun c_3 => ?_) (fun c_3 => ?_)
  · have h := (if_neg c_3).symm.trans h
    refine lv_aload_n F.1 F.2.1 dX9_inverse_19 rfl (lv_at hl 0 rfl) ?_
    refine lv_iconst (v := 1) F.1 F.2.1 dX9_inverse_20 (by decide) ?_
    refine lv_iload_n F.1 F.2.1 dX9_inverse_21 rfl (lv_at hl 1 rfl) ?_
    refine lv_bipush (v := -4) F.1 F.2.1 dX9_inverse_22 (by decide) ?_
    obtain ⟨r_5, S_6, hq_4, h⟩ := bi_some h
    refine rw_vi F hK hW hS [.int 1, .int a0, .int ((-4))] (rest := []) (c_X9_vertexAt l G A 1 a0 ((-4)) S (r_5, S_6) hq_4) (cwV 3 F.2.2.2.2 gX9_inverse_X9_vertexAt rfl rfl rfl (by decide +kernel) ⟨Nat.le_of_ble_eq_true rfl, Nat.le_of_ble_eq_true rfl⟩) (rw_recv (q0 := 0) hK hW idM_0 rfl rfl) rfl hl.1 rfl (Nat.le_of_ble_eq_true rfl) dX9_inverse_24 (fun H locs hW hS => ?_)
    exact w_X9_inverse_27 F hr hlk hK out  _ _ _ _ _  hW hS (lv_sub hl [] rfl) h
  · have h := (if_pos c_3).symm.trans h
    refine lv_aload_n F.1 F.2.1 dX9_inverse_10 rfl (lv_at hl 0 rfl) ?_
    refine rw_get (q0 := 0) F hK hW idM_0 rfl rfl in_X9_inverse_X9 13 (by decide) lk_X9_inverse_34 rfl dX9_inverse_11 ?_
    refine lv_iload_n F.1 F.2.1 dX9_inverse_14 rfl (lv_at hl 1 rfl) ?_
    obtain ⟨b_7, h⟩ := gd_some h
    refine rw_iald (q0 := 9) F hK hW idM_9 (fun _ => rfl) (ix_in b_7) dX9_inverse_15 ?_
    refine lv_topi (fun v_8 ev_8 => ?_)
    have h := lt_n ev_8 h
    refine lv_goto (tgt := 27) F.1 F.2.1 dX9_inverse_16 (by decide) ?_
    exact w_X9_inverse_27 F hr hlk hK out  _ _ _ _ _  hW hS (lv_sub hl [] rfl) h
/-! CellCoverModel.nand(II)I -/
abbrev rm_X9_nand : Room := { frames := 1, cells := 0, slots := 0, locals := 25 }
set_option maxHeartbeats 4000000 in
set_option maxRecDepth 100000 in
theorem c_X9_nand (l : Launch) (G : GT) (A : Nat → Prop) (a0 : Int32) (a1 : Int32) (S : St) (out : Int32 × St) (h : f_X9_nand a0 a1 S = some out) : Met l yX9_nand wsX9_nand rm_X9_nand (va_Pc [.ref (G.2.2 0 0), .int a0, .int a1] (WD shM idsM G A S)) (QI shM idsM G A out) 0 0 A := by
  refine Met.ofW (cc := cX9_nand) (maxL := 3) (ret := (some .int)) (by decide) rfl ?_
  intro p e s m args below meth c s₁ B hml hv
  obtain ⟨rfl, hW, hK⟩ := hv
  have F : CallFix p m c cX9_nand 3 s _ wsX9_nand RX9 := ⟨B.exec, B.bytes, hml, findClass_of_methodNamed B.named, atoms_spec (ws := wsX9_nand) B.pre⟩
  have hr := B.returns
  have hlk := B.notSynchronized
  have hS : va_S A s.heap s.heap [] := va_S.rf
  have hl := lv_entry ([.ref (G.2.2 0 0), .int a0, .int a1]) (n := 3) (Nat.le_of_ble_eq_true rfl)
  rw [lg_entry_eq]
  generalize (lg_sl ([.ref (G.2.2 0 0), .int a0, .int a1]) ++ List.replicate (3 - (lg_sl ([.ref (G.2.2 0 0), .int a0, .int a1])).length) Slot.unset).toArray = ls at hl ⊢
  have hl : lv_has ls 3 [(0, .ref (G.2.2 0 0)), (1, .int a0), (2, .int a1)] := hl
  unfold f_X9_nand at h
  refine lv_aload_n F.1 F.2.1 dX9_nand_0 rfl (lv_at hl 0 rfl) ?_
  refine lv_iconst (v := 2) F.1 F.2.1 dX9_nand_1 (by decide) ?_
  refine lv_iload_n F.1 F.2.1 dX9_nand_2 rfl (lv_at hl 1 rfl) ?_
  refine lv_iload_n F.1 F.2.1 dX9_nand_3 rfl (lv_at hl 2 rfl) ?_
  obtain ⟨r_2, S_3, hq_1, h⟩ := bi_some h
  refine rw_vi F hK hW hS [.int 2, .int a0, .int a1] (rest := []) (c_X9_vertexAt l G A 2 a0 a1 S (r_2, S_3) hq_1) (cwV 3 F.2.2.2.2 gX9_nand_X9_vertexAt rfl rfl rfl (by decide +kernel) ⟨Nat.le_of_ble_eq_true rfl, Nat.le_of_ble_eq_true rfl⟩) (rw_recv (q0 := 0) hK hW idM_0 rfl rfl) rfl hl.1 rfl (Nat.le_of_ble_eq_true rfl) dX9_nand_4 (fun H locs hW hS => ?_)
  exact rw_ret F hr hlk hK hW hS h dX9_nand_7
/-! CellCoverModel.gateOf(IIII)I -/
abbrev rm_X9_gateOf : Room := { frames := 2, cells := 0, slots := 0, locals := 47 }
set_option maxHeartbeats 4000000 in
set_option maxRecDepth 100000 in
theorem w_X9_gateOf_97 {p : Program} {l : Launch} {e : Env} {s : State} {m : MethodId} {args : Array Value} {below : List Frame} {meth : Method} {c : Code} {G : GT} {A : Nat → Prop} (F : CallFix p m c cX9_gateOf 13 s args wsX9_gateOf RX9) (hr : meth.sig.returnType = (some .int)) (hlk : meth.locks = false) (hK : va_K G.1 vwCl (tyl G) s) (out : Int32 × St) : ∀ (S : St) (y0 : Int32) (H : Heap) (locs : List Loc) (ls : Array Slot), Wd shM idsM G A S H → va_S A s.heap H locs → lv_has ls 13 [] → j_X9_gateOf_97 S y0 = some out → W p l e rm_X9_gateOf s m args below meth c H locs 0 0 (MQ below (QI shM idsM G A out) args s 0 0 A) (F0 m 97 ls [.int y0]) := by
  intro S y0 H locs ls hW hS hl h
  unfold j_X9_gateOf_97 at h
  exact rw_ret F hr hlk hK hW hS h dX9_gateOf_97
set_option maxHeartbeats 4000000 in
set_option maxRecDepth 100000 in
theorem c_X9_gateOf (l : Launch) (G : GT) (A : Nat → Prop) (a0 : Int32) (a1 : Int32) (a2 : Int32) (a3 : Int32) (S : St) (out : Int32 × St) (h : f_X9_gateOf a0 a1 a2 a3 S = some out) : Met l yX9_gateOf wsX9_gateOf rm_X9_gateOf (va_Pc [.ref (G.2.2 0 0), .int a0, .int a1, .int a2, .int a3] (WD shM idsM G A S)) (QI shM idsM G A out) 0 0 A := by
  refine Met.ofW (cc := cX9_gateOf) (maxL := 13) (ret := (some .int)) (by decide) rfl ?_
  intro p e s m args below meth c s₁ B hml hv
  obtain ⟨rfl, hW, hK⟩ := hv
  have F : CallFix p m c cX9_gateOf 13 s _ wsX9_gateOf RX9 := ⟨B.exec, B.bytes, hml, findClass_of_methodNamed B.named, atoms_spec (ws := wsX9_gateOf) B.pre⟩
  have hr := B.returns
  have hlk := B.notSynchronized
  have hS : va_S A s.heap s.heap [] := va_S.rf
  have hl := lv_entry ([.ref (G.2.2 0 0), .int a0, .int a1, .int a2, .int a3]) (n := 13) (Nat.le_of_ble_eq_true rfl)
  rw [lg_entry_eq]
  generalize (lg_sl ([.ref (G.2.2 0 0), .int a0, .int a1, .int a2, .int a3]) ++ List.replicate (13 - (lg_sl ([.ref (G.2.2 0 0), .int a0, .int a1, .int a2, .int a3])).length) Slot.unset).toArray = ls at hl ⊢
  have hl : lv_has ls 13 [(0, .ref (G.2.2 0 0)), (1, .int a0), (2, .int a1), (3, .int a2), (4, .int a3)] := hl
  unfold f_X9_gateOf at h
  refine lv_iload_n F.1 F.2.1 dX9_gateOf_0 rfl (lv_at hl 1 rfl) ?_
  by_cases c_1 : a0 = 0
  · have h := (if_pos c_1).symm.trans h
    refine lv_tableIn (off := 39) (tgt := 40) F.1 F.2.1 dX9_gateOf_1 (by rw [c_1]; decide) (by rw [c_1]; decide) (by rw [c_1]; rfl) (by decide) ?_
    refine lv_aload_n F.1 F.2.1 dX9_gateOf_40 rfl (lv_at hl 0 rfl) ?_
    refine lv_iload_n F.1 F.2.1 dX9_gateOf_41 rfl (lv_at hl 2 rfl) ?_
    obtain ⟨r_3, S_4, hq_2, h⟩ := bi_some h
    refine rw_vi F hK hW hS [.int a1] (rest := []) (c_X9_inverse l G A a1 S (r_3, S_4) hq_2) (cwV 1 F.2.2.2.2 gX9_gateOf_X9_inverse rfl rfl rfl (by decide +kernel) ⟨Nat.le_of_ble_eq_true rfl, Nat.le_of_ble_eq_true rfl⟩) (rw_recv (q0 := 0) hK hW idM_0 rfl rfl) rfl hl.1 rfl (Nat.le_of_ble_eq_true rfl) dX9_gateOf_42 (fun H locs hW hS => ?_)
    exact rw_ret F hr hlk hK hW hS h dX9_gateOf_45
  · have h := (if_neg c_1).symm.trans h
    by_cases c_5 : a0 = 1
    · have h := (if_pos c_5).symm.trans h
      refine lv_tableIn (off := 45) (tgt := 46) F.1 F.2.1 dX9_gateOf_1 (by rw [c_5]; decide) (by rw [c_5]; decide) (by rw [c_5]; rfl) (by decide) ?_
      refine lv_aload_n F.1 F.2.1 dX9_gateOf_46 rfl (lv_at hl 0 rfl) ?_
      refine lv_aload_n F.1 F.2.1 dX9_gateOf_47 rfl (lv_at hl 0 rfl) ?_
      refine lv_iload_n F.1 F.2.1 dX9_gateOf_48 rfl (lv_at hl 2 rfl) ?_
      refine lv_iload_n F.1 F.2.1 dX9_gateOf_49 rfl (lv_at hl 3 rfl) ?_
      obtain ⟨r_7, S_8, hq_6, h⟩ := bi_some h
      refine rw_vi F hK hW hS [.int a1, .int a2] (rest := [.ref (G.2.2 0 0)]) (c_X9_nand l G A a1 a2 S (r_7, S_8) hq_6) (cwV 2 F.2.2.2.2 gX9_gateOf_X9_nand rfl rfl rfl (by decide +kernel) ⟨Nat.le_of_ble_eq_true rfl, Nat.le_of_ble_eq_true rfl⟩) (rw_recv (q0 := 0) hK hW idM_0 rfl rfl) rfl hl.1 rfl (Nat.le_of_ble_eq_true rfl) dX9_gateOf_50 (fun H locs hW hS => ?_)
      obtain ⟨r_10, S_11, hq_9, h⟩ := bi_some h
      refine rw_vi F hK hW hS [.int r_7] (rest := []) (c_X9_inverse l G A r_7 S_8 (r_10, S_11) hq_9) (cwV 1 F.2.2.2.2 gX9_gateOf_X9_inverse rfl rfl rfl (by decide +kernel) ⟨Nat.le_of_ble_eq_true rfl, Nat.le_of_ble_eq_true rfl⟩) (rw_recv (q0 := 0) hK hW idM_0 rfl rfl) rfl hl.1 rfl (Nat.le_of_ble_eq_true rfl) dX9_gateOf_53 (fun H locs hW hS => ?_)
      exact rw_ret F hr hlk hK hW hS h dX9_gateOf_56
    · have h := (if_neg c_5).symm.trans h
      by_cases c_12 : a0 = 2
      · have h := (if_pos c_12).symm.trans h
        refine lv_tableIn (off := 56) (tgt := 57) F.1 F.2.1 dX9_gateOf_1 (by rw [c_12]; decide) (by rw [c_12]; decide) (by rw [c_12]; rfl) (by decide) ?_
        refine lv_aload_n F.1 F.2.1 dX9_gateOf_57 rfl (lv_at hl 0 rfl) ?_
        refine lv_iload_n F.1 F.2.1 dX9_gateOf_58 rfl (lv_at hl 2 rfl) ?_
        obtain ⟨r_14, S_15, hq_13, h⟩ := bi_some h
        refine rw_vi F hK hW hS [.int a1] (rest := []) (c_X9_inverse l G A a1 S (r_14, S_15) hq_13) (cwV 1 F.2.2.2.2 gX9_gateOf_X9_inverse rfl rfl rfl (by decide +kernel) ⟨Nat.le_of_ble_eq_true rfl, Nat.le_of_ble_eq_true rfl⟩) (rw_recv (q0 := 0) hK hW idM_0 rfl rfl) rfl hl.1 rfl (Nat.le_of_ble_eq_true rfl) dX9_gateOf_59 (fun H locs hW hS => ?_)
        refine lv_istore (lv' := [(5, .int r_14), (0, .ref (G.2.2 0 0)), (1, .int a0), (2, .int a1), (3, .int a2), (4, .int a3)]) F.1 F.2.1 dX9_gateOf_62 hl (by decide) rfl (fun ls hl => ?_)
        refine lv_aload_n F.1 F.2.1 dX9_gateOf_64 rfl (lv_at hl 1 rfl) ?_
        refine lv_iload_n F.1 F.2.1 dX9_gateOf_65 rfl (lv_at hl 4 rfl) ?_
        obtain ⟨r_17, S_18, hq_16, h⟩ := bi_some h
        refine rw_vi F hK hW hS [.int a2] (rest := []) (c_X9_inverse l G A a2 S_15 (r_17, S_18) hq_16) (cwV 1 F.2.2.2.2 gX9_gateOf_X9_inverse rfl rfl rfl (by decide +kernel) ⟨Nat.le_of_ble_eq_true rfl, Nat.le_of_ble_eq_true rfl⟩) (rw_recv (q0 := 0) hK hW idM_0 rfl rfl) rfl hl.1 rfl (Nat.le_of_ble_eq_true rfl) dX9_gateOf_66 (fun H locs hW hS => ?_)
        refine lv_istore (lv' := [(6, .int r_17), (5, .int r_14), (0, .ref (G.2.2 0 0)), (1, .int a0), (2, .int a1), (3, .int a2), (4, .int a3)]) F.1 F.2.1 dX9_gateOf_69 hl (by decide) rfl (fun ls hl => ?_)
        refine lv_aload_n F.1 F.2.1 dX9_gateOf_71 rfl (lv_at hl 2 rfl) ?_
        refine lv_iload F.1 F.2.1 dX9_gateOf_72 (lv_at hl 1 rfl) ?_
        refine lv_iload F.1 F.2.1 dX9_gateOf_74 (lv_at hl 0 rfl) ?_
        obtain ⟨r_20, S_21, hq_19, h⟩ := bi_some h
        refine rw_vi F hK hW hS [.int r_14, .int r_17] (rest := []) (c_X9_nand l G A r_14 r_17 S_18 (r_20, S_21) hq_19) (cwV 2 F.2.2.2.2 gX9_gateOf_X9_nand rfl rfl rfl (by decide +kernel) ⟨Nat.le_of_ble_eq_true rfl, Nat.le_of_ble_eq_true rfl⟩) (rw_recv (q0 := 0) hK hW idM_0 rfl rfl) rfl hl.1 rfl (Nat.le_of_ble_eq_true rfl) dX9_gateOf_76 (fun H locs hW hS => ?_)
        refine lv_istore (lv' := [(7, .int r_20), (6, .int r_17), (5, .int r_14), (0, .ref (G.2.2 0 0)), (1, .int a0), (2, .int a1), (3, .int a2), (4, .int a3)]) F.1 F.2.1 dX9_gateOf_79 hl (by decide) rfl (fun ls hl => ?_)
        refine lv_iload_n F.1 F.2.1 dX9_gateOf_81 rfl (lv_at hl 4 rfl) ?_
        refine lv_iconst (v := 2) F.1 F.2.1 dX9_gateOf_82 (by decide) ?_
        refine lv_icmp_ne (tgt := 91) F.1 F.2.1 dX9_gateOf_83 (by decide) (fun c_22 => ?_) (fun c_22 => ?_)
        · have h := (if_neg c_22).symm.trans h
          refine lv_aload_n F.1 F.2.1 dX9_gateOf_91 rfl (lv_at hl 3 rfl) ?_
          refine lv_iload F.1 F.2.1 dX9_gateOf_92 (lv_at hl 0 rfl) ?_
          obtain ⟨r_24, S_25, hq_23, h⟩ := bi_some h
          refine rw_vi F hK hW hS [.int r_20] (rest := []) (c_X9_inverse l G A r_20 S_21 (r_24, S_25) hq_23) (cwV 1 F.2.2.2.2 gX9_gateOf_X9_inverse rfl rfl rfl (by decide +kernel) ⟨Nat.le_of_ble_eq_true rfl, Nat.le_of_ble_eq_true rfl⟩) (rw_recv (q0 := 0) hK hW idM_0 rfl rfl) rfl hl.1 rfl (Nat.le_of_ble_eq_true rfl) dX9_gateOf_94 (fun H locs hW hS => ?_)
          exact w_X9_gateOf_97 F hr hlk hK out  _ _ _ _ _  hW hS (lv_sub hl [] rfl) h
        · have h := (if_pos c_22).symm.trans h
          refine lv_iload F.1 F.2.1 dX9_gateOf_86 (lv_at hl 0 rfl) ?_
          refine lv_goto (tgt := 97) F.1 F.2.1 dX9_gateOf_88 (by decide) ?_
          exact w_X9_gateOf_97 F hr hlk hK out  _ _ _ _ _  hW hS (lv_sub hl [] rfl) h
      · have h := (if_neg c_12).symm.trans h
        by_cases c_26 : a0 = 3
        · have h := (if_pos c_26).symm.trans h
          refine lv_tableIn (off := 97) (tgt := 98) F.1 F.2.1 dX9_gateOf_1 (by rw [c_26]; decide) (by rw [c_26]; decide) (by rw [c_26]; rfl) (by decide) ?_
          refine lv_aload_n F.1 F.2.1 dX9_gateOf_98 rfl (lv_at hl 0 rfl) ?_
          refine lv_iload_n F.1 F.2.1 dX9_gateOf_99 rfl (lv_at hl 2 rfl) ?_
          refine lv_iload_n F.1 F.2.1 dX9_gateOf_100 rfl (lv_at hl 3 rfl) ?_
          obtain ⟨r_28, S_29, hq_27, h⟩ := bi_some h
          refine rw_vi F hK hW hS [.int a1, .int a2] (rest := []) (c_X9_nand l G A a1 a2 S (r_28, S_29) hq_27) (cwV 2 F.2.2.2.2 gX9_gateOf_X9_nand rfl rfl rfl (by decide +kernel) ⟨Nat.le_of_ble_eq_true rfl, Nat.le_of_ble_eq_true rfl⟩) (rw_recv (q0 := 0) hK hW idM_0 rfl rfl) rfl hl.1 rfl (Nat.le_of_ble_eq_true rfl) dX9_gateOf_101 (fun H locs hW hS => ?_)
          refine lv_istore (lv' := [(8, .int r_28), (0, .ref (G.2.2 0 0)), (1, .int a0), (2, .int a1), (3, .int a2), (4, .int a3)]) F.1 F.2.1 dX9_gateOf_104 hl (by decide) rfl (fun ls hl => ?_)
          refine lv_aload_n F.1 F.2.1 dX9_gateOf_106 rfl (lv_at hl 1 rfl) ?_
          refine lv_iload_n F.1 F.2.1 dX9_gateOf_107 rfl (lv_at hl 3 rfl) ?_
          refine lv_iload F.1 F.2.1 dX9_gateOf_108 (lv_at hl 0 rfl) ?_
          obtain ⟨r_31, S_32, hq_30, h⟩ := bi_some h
          refine rw_vi F hK hW hS [.int a1, .int r_28] (rest := []) (c_X9_nand l G A a1 r_28 S_29 (r_31, S_32) hq_30) (cwV 2 F.2.2.2.2 gX9_gateOf_X9_nand rfl rfl rfl (by decide +kernel) ⟨Nat.le_of_ble_eq_true rfl, Nat.le_of_ble_eq_true rfl⟩) (rw_recv (q0 := 0) hK hW idM_0 rfl rfl) rfl hl.1 rfl (Nat.le_of_ble_eq_true rfl) dX9_gateOf_110 (fun H locs hW hS => ?_)
          refine lv_istore (lv' := [(9, .int r_31), (8, .int r_28), (0, .ref (G.2.2 0 0)), (1, .int a0), (2, .int a1), (3, .int a2), (4, .int a3)]) F.1 F.2.1 dX9_gateOf_113 hl (by decide) rfl (fun ls hl => ?_)
          refine lv_aload_n F.1 F.2.1 dX9_gateOf_115 rfl (lv_at hl 2 rfl) ?_
          refine lv_iload_n F.1 F.2.1 dX9_gateOf_116 rfl (lv_at hl 5 rfl) ?_
          refine lv_iload F.1 F.2.1 dX9_gateOf_117 (lv_at hl 1 rfl) ?_
          obtain ⟨r_34, S_35, hq_33, h⟩ := bi_some h
          refine rw_vi F hK hW hS [.int a2, .int r_28] (rest := []) (c_X9_nand l G A a2 r_28 S_32 (r_34, S_35) hq_33) (cwV 2 F.2.2.2.2 gX9_gateOf_X9_nand rfl rfl rfl (by decide +kernel) ⟨Nat.le_of_ble_eq_true rfl, Nat.le_of_ble_eq_true rfl⟩) (rw_recv (q0 := 0) hK hW idM_0 rfl rfl) rfl hl.1 rfl (Nat.le_of_ble_eq_true rfl) dX9_gateOf_119 (fun H locs hW hS => ?_)
          refine lv_istore (lv' := [(10, .int r_34), (9, .int r_31), (8, .int r_28), (0, .ref (G.2.2 0 0)), (1, .int a0), (2, .int a1), (3, .int a2), (4, .int a3)]) F.1 F.2.1 dX9_gateOf_122 hl (by decide) rfl (fun ls hl => ?_)
          refine lv_aload_n F.1 F.2.1 dX9_gateOf_124 rfl (lv_at hl 3 rfl) ?_
          refine lv_iload F.1 F.2.1 dX9_gateOf_125 (lv_at hl 1 rfl) ?_
          refine lv_iload F.1 F.2.1 dX9_gateOf_127 (lv_at hl 0 rfl) ?_
          obtain ⟨r_37, S_38, hq_36, h⟩ := bi_some h
          refine rw_vi F hK hW hS [.int r_31, .int r_34] (rest := []) (c_X9_nand l G A r_31 r_34 S_35 (r_37, S_38) hq_36) (cwV 2 F.2.2.2.2 gX9_gateOf_X9_nand rfl rfl rfl (by decide +kernel) ⟨Nat.le_of_ble_eq_true rfl, Nat.le_of_ble_eq_true rfl⟩) (rw_recv (q0 := 0) hK hW idM_0 rfl rfl) rfl hl.1 rfl (Nat.le_of_ble_eq_true rfl) dX9_gateOf_129 (fun H locs hW hS => ?_)
          exact rw_ret F hr hlk hK hW hS h dX9_gateOf_132
        · have h := (if_neg c_26).symm.trans h
          by_cases c_39 : a0 = 4
          · have h := (if_pos c_39).symm.trans h
            refine lv_tableIn (off := 132) (tgt := 133) F.1 F.2.1 dX9_gateOf_1 (by rw [c_39]; decide) (by rw [c_39]; decide) (by rw [c_39]; rfl) (by decide) ?_
            refine lv_aload_n F.1 F.2.1 dX9_gateOf_133 rfl (lv_at hl 0 rfl) ?_
            refine lv_iload_n F.1 F.2.1 dX9_gateOf_134 rfl (lv_at hl 2 rfl) ?_
            refine lv_iload_n F.1 F.2.1 dX9_gateOf_135 rfl (lv_at hl 3 rfl) ?_
            obtain ⟨r_41, S_42, hq_40, h⟩ := bi_some h
            refine rw_vi F hK hW hS [.int a1, .int a2] (rest := []) (c_X9_nand l G A a1 a2 S (r_41, S_42) hq_40) (cwV 2 F.2.2.2.2 gX9_gateOf_X9_nand rfl rfl rfl (by decide +kernel) ⟨Nat.le_of_ble_eq_true rfl, Nat.le_of_ble_eq_true rfl⟩) (rw_recv (q0 := 0) hK hW idM_0 rfl rfl) rfl hl.1 rfl (Nat.le_of_ble_eq_true rfl) dX9_gateOf_136 (fun H locs hW hS => ?_)
            exact rw_ret F hr hlk hK hW hS h dX9_gateOf_139
          · have h := (if_neg c_39).symm.trans h
            by_cases c_43 : a0 = 5
            · have h := (if_pos c_43).symm.trans h
              refine lv_tableIn (off := 56) (tgt := 57) F.1 F.2.1 dX9_gateOf_1 (by rw [c_43]; decide) (by rw [c_43]; decide) (by rw [c_43]; rfl) (by decide) ?_
              refine lv_aload_n F.1 F.2.1 dX9_gateOf_57 rfl (lv_at hl 0 rfl) ?_
              refine lv_iload_n F.1 F.2.1 dX9_gateOf_58 rfl (lv_at hl 2 rfl) ?_
              obtain ⟨r_45, S_46, hq_44, h⟩ := bi_some h
              refine rw_vi F hK hW hS [.int a1] (rest := []) (c_X9_inverse l G A a1 S (r_45, S_46) hq_44) (cwV 1 F.2.2.2.2 gX9_gateOf_X9_inverse rfl rfl rfl (by decide +kernel) ⟨Nat.le_of_ble_eq_true rfl, Nat.le_of_ble_eq_true rfl⟩) (rw_recv (q0 := 0) hK hW idM_0 rfl rfl) rfl hl.1 rfl (Nat.le_of_ble_eq_true rfl) dX9_gateOf_59 (fun H locs hW hS => ?_)
              refine lv_istore (lv' := [(5, .int r_45), (0, .ref (G.2.2 0 0)), (1, .int a0), (2, .int a1), (3, .int a2), (4, .int a3)]) F.1 F.2.1 dX9_gateOf_62 hl (by decide) rfl (fun ls hl => ?_)
              refine lv_aload_n F.1 F.2.1 dX9_gateOf_64 rfl (lv_at hl 1 rfl) ?_
              refine lv_iload_n F.1 F.2.1 dX9_gateOf_65 rfl (lv_at hl 4 rfl) ?_
              obtain ⟨r_48, S_49, hq_47, h⟩ := bi_some h
              refine rw_vi F hK hW hS [.int a2] (rest := []) (c_X9_inverse l G A a2 S_46 (r_48, S_49) hq_47) (cwV 1 F.2.2.2.2 gX9_gateOf_X9_inverse rfl rfl rfl (by decide +kernel) ⟨Nat.le_of_ble_eq_true rfl, Nat.le_of_ble_eq_true rfl⟩) (rw_recv (q0 := 0) hK hW idM_0 rfl rfl) rfl hl.1 rfl (Nat.le_of_ble_eq_true rfl) dX9_gateOf_66 (fun H locs hW hS => ?_)
              refine lv_istore (lv' := [(6, .int r_48), (5, .int r_45), (0, .ref (G.2.2 0 0)), (1, .int a0), (2, .int a1), (3, .int a2), (4, .int a3)]) F.1 F.2.1 dX9_gateOf_69 hl (by decide) rfl (fun ls hl => ?_)
              refine lv_aload_n F.1 F.2.1 dX9_gateOf_71 rfl (lv_at hl 2 rfl) ?_
              refine lv_iload F.1 F.2.1 dX9_gateOf_72 (lv_at hl 1 rfl) ?_
              refine lv_iload F.1 F.2.1 dX9_gateOf_74 (lv_at hl 0 rfl) ?_
              obtain ⟨r_51, S_52, hq_50, h⟩ := bi_some h
              refine rw_vi F hK hW hS [.int r_45, .int r_48] (rest := []) (c_X9_nand l G A r_45 r_48 S_49 (r_51, S_52) hq_50) (cwV 2 F.2.2.2.2 gX9_gateOf_X9_nand rfl rfl rfl (by decide +kernel) ⟨Nat.le_of_ble_eq_true rfl, Nat.le_of_ble_eq_true rfl⟩) (rw_recv (q0 := 0) hK hW idM_0 rfl rfl) rfl hl.1 rfl (Nat.le_of_ble_eq_true rfl) dX9_gateOf_76 (fun H locs hW hS => ?_)
              refine lv_istore (lv' := [(7, .int r_51), (6, .int r_48), (5, .int r_45), (0, .ref (G.2.2 0 0)), (1, .int a0), (2, .int a1), (3, .int a2), (4, .int a3)]) F.1 F.2.1 dX9_gateOf_79 hl (by decide) rfl (fun ls hl => ?_)
              refine lv_iload_n F.1 F.2.1 dX9_gateOf_81 rfl (lv_at hl 4 rfl) ?_
              refine lv_iconst (v := 2) F.1 F.2.1 dX9_gateOf_82 (by decide) ?_
              refine lv_icmp_ne (tgt := 91) F.1 F.2.1 dX9_gateOf_83 (by decide) (fun c_53 => ?_) (fun c_53 => ?_)
              · have h := (if_neg c_53).symm.trans h
                refine lv_aload_n F.1 F.2.1 dX9_gateOf_91 rfl (lv_at hl 3 rfl) ?_
                refine lv_iload F.1 F.2.1 dX9_gateOf_92 (lv_at hl 0 rfl) ?_
                obtain ⟨r_55, S_56, hq_54, h⟩ := bi_some h
                refine rw_vi F hK hW hS [.int r_51] (rest := []) (c_X9_inverse l G A r_51 S_52 (r_55, S_56) hq_54) (cwV 1 F.2.2.2.2 gX9_gateOf_X9_inverse rfl rfl rfl (by decide +kernel) ⟨Nat.le_of_ble_eq_true rfl, Nat.le_of_ble_eq_true rfl⟩) (rw_recv (q0 := 0) hK hW idM_0 rfl rfl) rfl hl.1 rfl (Nat.le_of_ble_eq_true rfl) dX9_gateOf_94 (fun H locs hW hS => ?_)
                exact w_X9_gateOf_97 F hr hlk hK out  _ _ _ _ _  hW hS (lv_sub hl [] rfl) h
              · have h := (if_pos c_53).symm.trans h
                refine lv_iload F.1 F.2.1 dX9_gateOf_86 (lv_at hl 0 rfl) ?_
                refine lv_goto (tgt := 97) F.1 F.2.1 dX9_gateOf_88 (by decide) ?_
                exact w_X9_gateOf_97 F hr hlk hK out  _ _ _ _ _  hW hS (lv_sub hl [] rfl) h
            · have h := (if_neg c_43).symm.trans h
              have nc_1 := lv_neT c_1 (a := 0) (by decide)
              have nc_5 := lv_neT c_5 (a := 1) (by decide)
              have nc_12 := lv_neT c_12 (a := 2) (by decide)
              have nc_26 := lv_neT c_26 (a := 3) (by decide)
              have nc_39 := lv_neT c_39 (a := 4) (by decide)
              have nc_43 := lv_neT c_43 (a := 5) (by decide)
              refine lv_tableOut (tgt := 140) F.1 F.2.1 dX9_gateOf_1 (by omega) (by decide) ?_
              refine lv_aload_n F.1 F.2.1 dX9_gateOf_140 rfl (lv_at hl 0 rfl) ?_
              refine lv_iload_n F.1 F.2.1 dX9_gateOf_141 rfl (lv_at hl 2 rfl) ?_
              refine lv_iload_n F.1 F.2.1 dX9_gateOf_142 rfl (lv_at hl 3 rfl) ?_
              obtain ⟨r_58, S_59, hq_57, h⟩ := bi_some h
              refine rw_vi F hK hW hS [.int a1, .int a2] (rest := []) (c_X9_nand l G A a1 a2 S (r_58, S_59) hq_57) (cwV 2 F.2.2.2.2 gX9_gateOf_X9_nand rfl rfl rfl (by decide +kernel) ⟨Nat.le_of_ble_eq_true rfl, Nat.le_of_ble_eq_true rfl⟩) (rw_recv (q0 := 0) hK hW idM_0 rfl rfl) rfl hl.1 rfl (Nat.le_of_ble_eq_true rfl) dX9_gateOf_143 (fun H locs hW hS => ?_)
              refine lv_istore (lv' := [(11, .int r_58), (0, .ref (G.2.2 0 0)), (1, .int a0), (2, .int a1), (3, .int a2), (4, .int a3)]) F.1 F.2.1 dX9_gateOf_146 hl (by decide) rfl (fun ls hl => ?_)
              refine lv_aload_n F.1 F.2.1 dX9_gateOf_148 rfl (lv_at hl 1 rfl) ?_
              refine lv_aload_n F.1 F.2.1 dX9_gateOf_149 rfl (lv_at hl 1 rfl) ?_
              refine lv_iload_n F.1 F.2.1 dX9_gateOf_150 rfl (lv_at hl 3 rfl) ?_
              obtain ⟨r_61, S_62, hq_60, h⟩ := bi_some h
              refine rw_vi F hK hW hS [.int a1] (rest := [.ref (G.2.2 0 0)]) (c_X9_inverse l G A a1 S_59 (r_61, S_62) hq_60) (cwV 1 F.2.2.2.2 gX9_gateOf_X9_inverse rfl rfl rfl (by decide +kernel) ⟨Nat.le_of_ble_eq_true rfl, Nat.le_of_ble_eq_true rfl⟩) (rw_recv (q0 := 0) hK hW idM_0 rfl rfl) rfl hl.1 rfl (Nat.le_of_ble_eq_true rfl) dX9_gateOf_151 (fun H locs hW hS => ?_)
              refine lv_iload F.1 F.2.1 dX9_gateOf_154 (lv_at hl 5 rfl) ?_
              obtain ⟨r_64, S_65, hq_63, h⟩ := bi_some h
              refine rw_vi F hK hW hS [.int r_61, .int a3] (rest := []) (c_X9_nand l G A r_61 a3 S_62 (r_64, S_65) hq_63) (cwV 2 F.2.2.2.2 gX9_gateOf_X9_nand rfl rfl rfl (by decide +kernel) ⟨Nat.le_of_ble_eq_true rfl, Nat.le_of_ble_eq_true rfl⟩) (rw_recv (q0 := 0) hK hW idM_0 rfl rfl) rfl hl.1 rfl (Nat.le_of_ble_eq_true rfl) dX9_gateOf_156 (fun H locs hW hS => ?_)
              refine lv_istore (lv' := [(12, .int r_64), (11, .int r_58), (0, .ref (G.2.2 0 0)), (1, .int a0), (2, .int a1), (3, .int a2), (4, .int a3)]) F.1 F.2.1 dX9_gateOf_159 hl (by decide) rfl (fun ls hl => ?_)
              refine lv_aload_n F.1 F.2.1 dX9_gateOf_161 rfl (lv_at hl 2 rfl) ?_
              refine lv_iload F.1 F.2.1 dX9_gateOf_162 (lv_at hl 1 rfl) ?_
              refine lv_iload F.1 F.2.1 dX9_gateOf_164 (lv_at hl 0 rfl) ?_
              obtain ⟨r_67, S_68, hq_66, h⟩ := bi_some h
              refine rw_vi F hK hW hS [.int r_58, .int r_64] (rest := []) (c_X9_nand l G A r_58 r_64 S_65 (r_67, S_68) hq_66) (cwV 2 F.2.2.2.2 gX9_gateOf_X9_nand rfl rfl rfl (by decide +kernel) ⟨Nat.le_of_ble_eq_true rfl, Nat.le_of_ble_eq_true rfl⟩) (rw_recv (q0 := 0) hK hW idM_0 rfl rfl) rfl hl.1 rfl (Nat.le_of_ble_eq_true rfl) dX9_gateOf_166 (fun H locs hW hS => ?_)
              exact rw_ret F hr hlk hK hW hS h dX9_gateOf_169
