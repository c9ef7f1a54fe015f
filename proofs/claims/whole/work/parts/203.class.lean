/-! CellCover.drop(I)I -/
abbrev rm_X8_drop : Room := { frames := 2, cells := 0, slots := 0, locals := 42 }
theorem in_X8_drop_X8 : ∀ w ∈ wsX80, w ∈ wsX8_drop := by decide +kernel
theorem in_X8_drop_X3 : ∀ w ∈ wsX30, w ∈ wsX8_drop := by decide +kernel
theorem in_X8_drop_X0 : ∀ w ∈ wsX00, w ∈ wsX8_drop := by decide +kernel
theorem lk_X8_drop_33 : Cond.fieldLink RX8 33 "CellCover" "library" "LCellCover$Library;" ∈ wsX8_drop := by decide +kernel
theorem lk_X8_drop_125 : Cond.fieldLink RX8 125 "CellCover$Library" "cells" "[LCellCover$Cell;" ∈ wsX8_drop := by decide +kernel
theorem lk_X8_drop_146 : Cond.fieldLink RX8 146 "CellCover$Cell" "there" "Z" ∈ wsX8_drop := by decide +kernel
set_option maxHeartbeats 4000000 in
set_option maxRecDepth 100000 in
theorem c_X8_drop (l : Launch) (G : GT) (A : Nat → Prop) (a0 : Int32) (S : St) (out : Int32 × St) (h : f_X8_drop a0 S = some out) : Met l yX8_drop wsX8_drop rm_X8_drop (va_Pc [.ref (G.2.2 0 0), .int a0] (WD shC idsC G A S)) (QI shC idsC G A out) 0 0 A := by
  refine Met.ofW (cc := cX8_drop) (maxL := 2) (ret := (some .int)) (by decide) rfl ?_
  intro p e s m args below meth c s₁ B hml hv
  obtain ⟨rfl, hW, hK⟩ := hv
  have F : CallFix p m c cX8_drop 2 s _ wsX8_drop RX8 := ⟨B.exec, B.bytes, hml, findClass_of_methodNamed B.named, atoms_spec (ws := wsX8_drop) B.pre⟩
  have hr := B.returns
  have hlk := B.notSynchronized
  have hS : va_S A s.heap s.heap [] := va_S.rf
  have hl := lv_entry ([.ref (G.2.2 0 0), .int a0]) (n := 2) (Nat.le_of_ble_eq_true rfl)
  rw [lg_entry_eq]
  generalize (lg_sl ([.ref (G.2.2 0 0), .int a0]) ++ List.replicate (2 - (lg_sl ([.ref (G.2.2 0 0), .int a0])).length) Slot.unset).toArray = ls at hl ⊢
  have hl : lv_has ls 2 [(0, .ref (G.2.2 0 0)), (1, .int a0)] := hl
  unfold f_X8_drop at h
  refine lv_aload_n F.1 F.2.1 dX8_drop_0 rfl (lv_at hl 0 rfl) ?_
  refine rw_get (q0 := 0) F hK hW idC_0 rfl rfl in_X8_drop_X8 3 (by decide) lk_X8_drop_33 rfl dX8_drop_1 ?_
  refine lv_iload_n F.1 F.2.1 dX8_drop_4 rfl (lv_at hl 1 rfl) ?_
  obtain ⟨r_2, S_3, hq_1, h⟩ := bi_some h
  refine rw_vi F hK hW hS [.int a0] (rest := []) (c_X3_has l G A a0 S (r_2, S_3) hq_1) (cwV 1 F.2.2.2.2 gX8_drop_X3_has rfl rfl rfl (by decide +kernel) ⟨Nat.le_of_ble_eq_true rfl, Nat.le_of_ble_eq_true rfl⟩) (rw_recv (q0 := 4) hK hW idC_4 rfl rfl) rfl hl.1 rfl (Nat.le_of_ble_eq_true rfl) dX8_drop_5 (fun H locs hW hS => ?_)
  refine lv_if_ne (tgt := 13) F.1 F.2.1 dX8_drop_8 (by decide) (fun c_4 => ?_) (fun c_4 => ?_)
  · have h := (if_neg c_4).symm.trans h
    refine lv_aload_n F.1 F.2.1 dX8_drop_13 rfl (lv_at hl 0 rfl) ?_
    refine rw_get (q0 := 0) F hK hW idC_0 rfl rfl in_X8_drop_X8 3 (by decide) lk_X8_drop_33 rfl dX8_drop_14 ?_
    refine rw_get (q0 := 4) F hK hW idC_4 rfl rfl in_X8_drop_X3 0 (by decide) lk_X8_drop_125 rfl dX8_drop_17 ?_
    refine lv_iload_n F.1 F.2.1 dX8_drop_20 rfl (lv_at hl 1 rfl) ?_
    obtain ⟨b_5, h⟩ := gd_some h
    refine rw_aald (q0 := 44) F hK hW idC_24 (fun _ => rfl) (ix_in b_5) dX8_drop_21 ?_
    refine lv_iconst (v := 0) F.1 F.2.1 dX8_drop_22 (by decide) ?_
    refine rw_put ndC (q0 := 9 + a0.toNatClampNeg) (x := 0) F hK hW hS (idC_8 _ (ix_lt b_5)) rfl rfl in_X8_drop_X0 tyX0 tyX0_ok nmX0 6 (by decide) lk_X8_drop_146 rfl (ty := .boolean) (by decide +kernel) (by decide) (by decide) (Nat.le_of_ble_eq_true rfl) rfl dX8_drop_23 (fun H locs S_6 eS_6 hW hS => ?_)
    have h := lt_n eS_6 h
    refine lv_aload_n F.1 F.2.1 dX8_drop_26 rfl (lv_at hl 0 rfl) ?_
    refine lv_iconst (v := 3) F.1 F.2.1 dX8_drop_27 (by decide) ?_
    refine lv_iload_n F.1 F.2.1 dX8_drop_28 rfl (lv_at hl 1 rfl) ?_
    refine lv_iadd F.1 F.2.1 dX8_drop_29 ?_
    obtain ⟨q_7, hq_7, h⟩ := bv_some h
    refine rw_vv F hK hW hS [.int (3 + a0)] (rest := []) (c_X8_noteChange l G A (3 + a0) S_6 q_7 hq_7) (cwV 1 F.2.2.2.2 gX8_drop_X8_noteChange rfl rfl rfl (by decide +kernel) ⟨Nat.le_of_ble_eq_true rfl, Nat.le_of_ble_eq_true rfl⟩) (rw_recv (q0 := 0) hK hW idC_0 rfl rfl) rfl hl.1 rfl (Nat.le_of_ble_eq_true rfl) dX8_drop_30 (fun H locs hW hS => ?_)
    refine lv_iconst (v := 1) F.1 F.2.1 dX8_drop_33 (by decide) ?_
    exact rw_ret F hr hlk hK hW hS h dX8_drop_34
  · have h := (if_pos c_4).symm.trans h
    refine lv_iconst (v := -1) F.1 F.2.1 dX8_drop_11 (by decide) ?_
    exact rw_ret F hr hlk hK hW hS h dX8_drop_12
/-! CellCover$History.takeLatest()I -/
abbrev rm_X2_takeLatest : Room := { frames := 0, cells := 0, slots := 0, locals := 0 }
theorem in_X2_takeLatest_X2 : ∀ w ∈ wsX20, w ∈ wsX2_takeLatest := by decide +kernel
theorem lk_X2_takeLatest_15 : Cond.fieldLink RX2 15 "CellCover$History" "many" "I" ∈ wsX2_takeLatest := by decide +kernel
theorem lk_X2_takeLatest_9 : Cond.fieldLink RX2 9 "CellCover$History" "steps" "[I" ∈ wsX2_takeLatest := by decide +kernel
set_option maxHeartbeats 4000000 in
set_option maxRecDepth 100000 in
theorem c_X2_takeLatest (l : Launch) (G : GT) (A : Nat → Prop) (S : St) (out : Int32 × St) (h : f_X2_takeLatest S = some out) : Met l yX2_takeLatest wsX2_takeLatest rm_X2_takeLatest (va_Pc [.ref (G.2.2 7 0)] (WD shC idsC G A S)) (QI shC idsC G A out) 0 0 A := by
  refine Met.ofW (cc := cX2_takeLatest) (maxL := 1) (ret := (some .int)) (by decide) rfl ?_
  intro p e s m args below meth c s₁ B hml hv
  obtain ⟨rfl, hW, hK⟩ := hv
  have F : CallFix p m c cX2_takeLatest 1 s _ wsX2_takeLatest RX2 := ⟨B.exec, B.bytes, hml, findClass_of_methodNamed B.named, atoms_spec (ws := wsX2_takeLatest) B.pre⟩
  have hr := B.returns
  have hlk := B.notSynchronized
  have hS : va_S A s.heap s.heap [] := va_S.rf
  have hl := lv_entry ([.ref (G.2.2 7 0)]) (n := 1) (Nat.le_of_ble_eq_true rfl)
  rw [lg_entry_eq]
  generalize (lg_sl ([.ref (G.2.2 7 0)]) ++ List.replicate (1 - (lg_sl ([.ref (G.2.2 7 0)])).length) Slot.unset).toArray = ls at hl ⊢
  have hl : lv_has ls 1 [(0, .ref (G.2.2 7 0))] := hl
  unfold f_X2_takeLatest at h
  refine lv_aload_n F.1 F.2.1 dX2_takeLatest_0 rfl (lv_at hl 0 rfl) ?_
  refine lv_dup F.1 F.2.1 dX2_takeLatest_1 rfl ?_
  refine rw_get (q0 := 8) F hK hW idC_7 rfl rfl in_X2_takeLatest_X2 1 (by decide) lk_X2_takeLatest_15 rfl dX2_takeLatest_2 ?_
  refine lv_iconst (v := 1) F.1 F.2.1 dX2_takeLatest_5 (by decide) ?_
  refine lv_isub F.1 F.2.1 dX2_takeLatest_6 ?_
  refine rw_put ndC (q0 := 8) (x := (S 7 0 1) - 1) F hK hW hS idC_7 rfl rfl in_X2_takeLatest_X2 tyX2 tyX2_ok nmX2 1 (by decide) lk_X2_takeLatest_15 rfl (ty := .int) (by decide +kernel) rfl rfl (Nat.le_of_ble_eq_true rfl) rfl dX2_takeLatest_7 (fun H locs S_1 eS_1 hW hS => ?_)
  have h := lt_n eS_1 h
  refine lv_aload_n F.1 F.2.1 dX2_takeLatest_10 rfl (lv_at hl 0 rfl) ?_
  refine rw_get (q0 := 8) F hK hW idC_7 rfl rfl in_X2_takeLatest_X2 0 (by decide) lk_X2_takeLatest_9 rfl dX2_takeLatest_11 ?_
  refine lv_aload_n F.1 F.2.1 dX2_takeLatest_14 rfl (lv_at hl 0 rfl) ?_
  refine rw_get (q0 := 8) F hK hW idC_7 rfl rfl in_X2_takeLatest_X2 1 (by decide) lk_X2_takeLatest_15 rfl dX2_takeLatest_15 ?_
  obtain ⟨b_2, h⟩ := gd_some h
  refine rw_iald (q0 := 63) F hK hW idC_35 (fun _ => rfl) (ix_in b_2) dX2_takeLatest_18 ?_
  refine lv_topi (fun v_3 ev_3 => ?_)
  have h := lt_n ev_3 h
  exact rw_ret F hr hlk hK hW hS h dX2_takeLatest_19
/-! CellCover$Net.removeNode()I -/
abbrev rm_X5_removeNode : Room := { frames := 0, cells := 0, slots := 0, locals := 0 }
theorem in_X5_removeNode_X5 : ∀ w ∈ wsX50, w ∈ wsX5_removeNode := by decide +kernel
theorem lk_X5_removeNode_36 : Cond.fieldLink RX5 36 "CellCover$Net" "nodes" "I" ∈ wsX5_removeNode := by decide +kernel
theorem lk_X5_removeNode_9 : Cond.fieldLink RX5 9 "CellCover$Net" "kind" "[I" ∈ wsX5_removeNode := by decide +kernel
theorem lk_X5_removeNode_30 : Cond.fieldLink RX5 30 "CellCover$Net" "verticesAhead" "[I" ∈ wsX5_removeNode := by decide +kernel
theorem lk_X5_removeNode_40 : Cond.fieldLink RX5 40 "CellCover$Net" "inputs" "I" ∈ wsX5_removeNode := by decide +kernel
set_option maxHeartbeats 4000000 in
set_option maxRecDepth 100000 in
theorem w_X5_removeNode_34 {p : Program} {l : Launch} {e : Env} {s : State} {m : MethodId} {args : Array Value} {below : List Frame} {meth : Method} {c : Code} {G : GT} {A : Nat → Prop} (F : CallFix p m c cX5_removeNode 1 s args wsX5_removeNode RX5) (hr : meth.sig.returnType = (some .int)) (hlk : meth.locks = false) (hK : va_K G.1 vwCl (tyl G) s) (out : Int32 × St) : ∀ (S : St) (H : Heap) (locs : List Loc) (ls : Array Slot), Wd shC idsC G A S H → va_S A s.heap H locs → lv_has ls 1 [(0, .ref (G.2.2 2 0))] → j_X5_removeNode_34 S = some out → W p l e rm_X5_removeNode s m args below meth c H locs 0 0 (MQ below (QI shC idsC G A out) args s 0 0 A) (F0 m 34 ls []) := by
  intro S H locs ls hW hS hl h
  unfold j_X5_removeNode_34 at h
  refine lv_aload_n F.1 F.2.1 dX5_removeNode_34 rfl (lv_at hl 0 rfl) ?_
  refine rw_get (q0 := 2) F hK hW idC_2 rfl rfl in_X5_removeNode_X5 6 (by decide) lk_X5_removeNode_30 rfl dX5_removeNode_35 ?_
  refine lv_aload_n F.1 F.2.1 dX5_removeNode_38 rfl (lv_at hl 0 rfl) ?_
  refine rw_get (q0 := 2) F hK hW idC_2 rfl rfl in_X5_removeNode_X5 8 (by decide) lk_X5_removeNode_36 rfl dX5_removeNode_39 ?_
  obtain ⟨b_5, h⟩ := gd_some h
  refine rw_iald (q0 := 41) F hK hW idC_21 (fun _ => rfl) (ix_in b_5) dX5_removeNode_42 ?_
  refine lv_topi (fun v_6 ev_6 => ?_)
  have h := lt_n ev_6 h
  exact rw_ret F hr hlk hK hW hS h dX5_removeNode_43
set_option maxHeartbeats 4000000 in
set_option maxRecDepth 100000 in
theorem c_X5_removeNode (l : Launch) (G : GT) (A : Nat → Prop) (S : St) (out : Int32 × St) (h : f_X5_removeNode S = some out) : Met l yX5_removeNode wsX5_removeNode rm_X5_removeNode (va_Pc [.ref (G.2.2 2 0)] (WD shC idsC G A S)) (QI shC idsC G A out) 0 0 A := by
  refine Met.ofW (cc := cX5_removeNode) (maxL := 1) (ret := (some .int)) (by decide) rfl ?_
  intro p e s m args below meth c s₁ B hml hv
  obtain ⟨rfl, hW, hK⟩ := hv
  have F : CallFix p m c cX5_removeNode 1 s _ wsX5_removeNode RX5 := ⟨B.exec, B.bytes, hml, findClass_of_methodNamed B.named, atoms_spec (ws := wsX5_removeNode) B.pre⟩
  have hr := B.returns
  have hlk := B.notSynchronized
  have hS : va_S A s.heap s.heap [] := va_S.rf
  have hl := lv_entry ([.ref (G.2.2 2 0)]) (n := 1) (Nat.le_of_ble_eq_true rfl)
  rw [lg_entry_eq]
  generalize (lg_sl ([.ref (G.2.2 2 0)]) ++ List.replicate (1 - (lg_sl ([.ref (G.2.2 2 0)])).length) Slot.unset).toArray = ls at hl ⊢
  have hl : lv_has ls 1 [(0, .ref (G.2.2 2 0))] := hl
  unfold f_X5_removeNode at h
  refine lv_aload_n F.1 F.2.1 dX5_removeNode_0 rfl (lv_at hl 0 rfl) ?_
  refine lv_dup F.1 F.2.1 dX5_removeNode_1 rfl ?_
  refine rw_get (q0 := 2) F hK hW idC_2 rfl rfl in_X5_removeNode_X5 8 (by decide) lk_X5_removeNode_36 rfl dX5_removeNode_2 ?_
  refine lv_iconst (v := 1) F.1 F.2.1 dX5_removeNode_5 (by decide) ?_
  refine lv_isub F.1 F.2.1 dX5_removeNode_6 ?_
  refine rw_put ndC (q0 := 2) (x := (S 2 0 8) - 1) F hK hW hS idC_2 rfl rfl in_X5_removeNode_X5 tyX5 tyX5_ok nmX5 8 (by decide) lk_X5_removeNode_36 rfl (ty := .int) (by decide +kernel) rfl rfl (Nat.le_of_ble_eq_true rfl) rfl dX5_removeNode_7 (fun H locs S_1 eS_1 hW hS => ?_)
  have h := lt_n eS_1 h
  refine lv_aload_n F.1 F.2.1 dX5_removeNode_10 rfl (lv_at hl 0 rfl) ?_
  refine rw_get (q0 := 2) F hK hW idC_2 rfl rfl in_X5_removeNode_X5 0 (by decide) lk_X5_removeNode_9 rfl dX5_removeNode_11 ?_
  refine lv_aload_n F.1 F.2.1 dX5_removeNode_14 rfl (lv_at hl 0 rfl) ?_
  refine rw_get (q0 := 2) F hK hW idC_2 rfl rfl in_X5_removeNode_X5 8 (by decide) lk_X5_removeNode_36 rfl dX5_removeNode_15 ?_
  obtain ⟨b_2, h⟩ := gd_some h
  refine rw_iald (q0 := 35) F hK hW idC_15 (fun _ => rfl) (ix_in b_2) dX5_removeNode_18 ?_
  refine lv_topi (fun v_3 ev_3 => ?_)
  have h := lt_n ev_3 h
  refine lv_bipush (v := 7) F.1 F.2.1 dX5_removeNode_19 (by decide) ?_
  refine lv_icmp_ne (tgt := 34) F.1 F.2.1 dX5_removeNode_21 (by decide) (fun c_4 => ?_) (fun c_4 => ?_)
  · have h := (if_neg c_4).symm.trans h
    exact w_X5_removeNode_34 F hr hlk hK out  _ _ _ _  hW hS hl h
  · have h := (if_pos c_4).symm.trans h
    refine lv_aload_n F.1 F.2.1 dX5_removeNode_24 rfl (lv_at hl 0 rfl) ?_
    refine lv_dup F.1 F.2.1 dX5_removeNode_25 rfl ?_
    refine rw_get (q0 := 2) F hK hW idC_2 rfl rfl in_X5_removeNode_X5 9 (by decide) lk_X5_removeNode_40 rfl dX5_removeNode_26 ?_
    refine lv_iconst (v := 1) F.1 F.2.1 dX5_removeNode_29 (by decide) ?_
    refine lv_isub F.1 F.2.1 dX5_removeNode_30 ?_
    refine rw_put ndC (q0 := 2) (x := (S_1 2 0 9) - 1) F hK hW hS idC_2 rfl rfl in_X5_removeNode_X5 tyX5 tyX5_ok nmX5 9 (by decide) lk_X5_removeNode_40 rfl (ty := .int) (by decide +kernel) rfl rfl (Nat.le_of_ble_eq_true rfl) rfl dX5_removeNode_31 (fun H locs S_7 eS_7 hW hS => ?_)
    have h := lt_n eS_7 h
    exact w_X5_removeNode_34 F hr hlk hK out  _ _ _ _  hW hS hl h
/-! CellCover$Library.forgetLatest()V -/
abbrev rm_X3_forgetLatest : Room := { frames := 0, cells := 0, slots := 0, locals := 0 }
theorem in_X3_forgetLatest_X3 : ∀ w ∈ wsX30, w ∈ wsX3_forgetLatest := by decide +kernel
theorem in_X3_forgetLatest_X0 : ∀ w ∈ wsX00, w ∈ wsX3_forgetLatest := by decide +kernel
theorem lk_X3_forgetLatest_17 : Cond.fieldLink RX3 17 "CellCover$Library" "many" "I" ∈ wsX3_forgetLatest := by decide +kernel
theorem lk_X3_forgetLatest_11 : Cond.fieldLink RX3 11 "CellCover$Library" "cells" "[LCellCover$Cell;" ∈ wsX3_forgetLatest := by decide +kernel
theorem lk_X3_forgetLatest_22 : Cond.fieldLink RX3 22 "CellCover$Cell" "there" "Z" ∈ wsX3_forgetLatest := by decide +kernel
set_option maxHeartbeats 4000000 in
set_option maxRecDepth 100000 in
theorem w_X3_forgetLatest_30 {p : Program} {l : Launch} {e : Env} {s : State} {m : MethodId} {args : Array Value} {below : List Frame} {meth : Method} {c : Code} {G : GT} {A : Nat → Prop} (F : CallFix p m c cX3_forgetLatest 1 s args wsX3_forgetLatest RX3) (hr : meth.sig.returnType = none) (hlk : meth.locks = false) (hK : va_K G.1 vwCl (tyl G) s) (out : St) : ∀ (S : St) (H : Heap) (locs : List Loc) (ls : Array Slot), Wd shC idsC G A S H → va_S A s.heap H locs → lv_has ls 1 [] → j_X3_forgetLatest_30 S = some out → W p l e rm_X3_forgetLatest s m args below meth c H locs 0 0 (MQ below (QV shC idsC G A out) args s 0 0 A) (F0 m 30 ls []) := by
  intro S H locs ls hW hS hl h
  unfold j_X3_forgetLatest_30 at h
  exact rw_retv F hr hlk hK hW hS h dX3_forgetLatest_30
set_option maxHeartbeats 4000000 in
set_option maxRecDepth 100000 in
theorem c_X3_forgetLatest (l : Launch) (G : GT) (A : Nat → Prop) (S : St) (out : St) (h : f_X3_forgetLatest S = some out) : Met l yX3_forgetLatest wsX3_forgetLatest rm_X3_forgetLatest (va_Pc [.ref (G.2.2 4 0)] (WD shC idsC G A S)) (QV shC idsC G A out) 0 0 A := by
  refine Met.ofW (cc := cX3_forgetLatest) (maxL := 1) (ret := none) (by decide) rfl ?_
  intro p e s m args below meth c s₁ B hml hv
  obtain ⟨rfl, hW, hK⟩ := hv
  have F : CallFix p m c cX3_forgetLatest 1 s _ wsX3_forgetLatest RX3 := ⟨B.exec, B.bytes, hml, findClass_of_methodNamed B.named, atoms_spec (ws := wsX3_forgetLatest) B.pre⟩
  have hr := B.returns
  have hlk := B.notSynchronized
  have hS : va_S A s.heap s.heap [] := va_S.rf
  have hl := lv_entry ([.ref (G.2.2 4 0)]) (n := 1) (Nat.le_of_ble_eq_true rfl)
  rw [lg_entry_eq]
  generalize (lg_sl ([.ref (G.2.2 4 0)]) ++ List.replicate (1 - (lg_sl ([.ref (G.2.2 4 0)])).length) Slot.unset).toArray = ls at hl ⊢
  have hl : lv_has ls 1 [(0, .ref (G.2.2 4 0))] := hl
  unfold f_X3_forgetLatest at h
  refine lv_aload_n F.1 F.2.1 dX3_forgetLatest_0 rfl (lv_at hl 0 rfl) ?_
  refine rw_get (q0 := 4) F hK hW idC_4 rfl rfl in_X3_forgetLatest_X3 1 (by decide) lk_X3_forgetLatest_17 rfl dX3_forgetLatest_1 ?_
  refine lv_if_le (tgt := 30) F.1 F.2.1 dX3_forgetLatest_4 (by decide) (fun c_1 => ?_) (fun c_1 => ?_)
  · have h := (if_pos c_1).symm.trans h
    exact w_X3_forgetLatest_30 F hr hlk hK out  _ _ _ _  hW hS (lv_sub hl [] rfl) h
  · have h := (if_neg c_1).symm.trans h
    refine lv_aload_n F.1 F.2.1 dX3_forgetLatest_7 rfl (lv_at hl 0 rfl) ?_
    refine lv_dup F.1 F.2.1 dX3_forgetLatest_8 rfl ?_
    refine rw_get (q0 := 4) F hK hW idC_4 rfl rfl in_X3_forgetLatest_X3 1 (by decide) lk_X3_forgetLatest_17 rfl dX3_forgetLatest_9 ?_
    refine lv_iconst (v := 1) F.1 F.2.1 dX3_forgetLatest_12 (by decide) ?_
    refine lv_isub F.1 F.2.1 dX3_forgetLatest_13 ?_
    refine rw_put ndC (q0 := 4) (x := (S 4 0 1) - 1) F hK hW hS idC_4 rfl rfl in_X3_forgetLatest_X3 tyX3 tyX3_ok nmX3 1 (by decide) lk_X3_forgetLatest_17 rfl (ty := .int) (by decide +kernel) rfl rfl (Nat.le_of_ble_eq_true rfl) rfl dX3_forgetLatest_14 (fun H locs S_2 eS_2 hW hS => ?_)
    have h := lt_n eS_2 h
    refine lv_aload_n F.1 F.2.1 dX3_forgetLatest_17 rfl (lv_at hl 0 rfl) ?_
    refine rw_get (q0 := 4) F hK hW idC_4 rfl rfl in_X3_forgetLatest_X3 0 (by decide) lk_X3_forgetLatest_11 rfl dX3_forgetLatest_18 ?_
    refine lv_aload_n F.1 F.2.1 dX3_forgetLatest_21 rfl (lv_at hl 0 rfl) ?_
    refine rw_get (q0 := 4) F hK hW idC_4 rfl rfl in_X3_forgetLatest_X3 1 (by decide) lk_X3_forgetLatest_17 rfl dX3_forgetLatest_22 ?_
    obtain ⟨b_3, h⟩ := gd_some h
    refine rw_aald (q0 := 44) F hK hW idC_24 (fun _ => rfl) (ix_in b_3) dX3_forgetLatest_25 ?_
    refine lv_iconst (v := 0) F.1 F.2.1 dX3_forgetLatest_26 (by decide) ?_
    refine rw_put ndC (q0 := 9 + ((S_2 4 0 1).toNatClampNeg)) (x := 0) F hK hW hS (idC_8 _ (ix_lt b_3)) rfl rfl in_X3_forgetLatest_X0 tyX0 tyX0_ok nmX0 6 (by decide) lk_X3_forgetLatest_22 rfl (ty := .boolean) (by decide +kernel) (by decide) (by decide) (Nat.le_of_ble_eq_true rfl) rfl dX3_forgetLatest_27 (fun H locs S_4 eS_4 hW hS => ?_)
    have h := lt_n eS_4 h
    exact w_X3_forgetLatest_30 F hr hlk hK out  _ _ _ _  hW hS (lv_sub hl [] rfl) h
/-! CellCover$Library.bringBack(I)V -/
abbrev rm_X3_bringBack : Room := { frames := 0, cells := 0, slots := 0, locals := 0 }
theorem in_X3_bringBack_X3 : ∀ w ∈ wsX30, w ∈ wsX3_bringBack := by decide +kernel
theorem in_X3_bringBack_X0 : ∀ w ∈ wsX00, w ∈ wsX3_bringBack := by decide +kernel
theorem lk_X3_bringBack_17 : Cond.fieldLink RX3 17 "CellCover$Library" "many" "I" ∈ wsX3_bringBack := by decide +kernel
theorem lk_X3_bringBack_11 : Cond.fieldLink RX3 11 "CellCover$Library" "cells" "[LCellCover$Cell;" ∈ wsX3_bringBack := by decide +kernel
theorem lk_X3_bringBack_22 : Cond.fieldLink RX3 22 "CellCover$Cell" "there" "Z" ∈ wsX3_bringBack := by decide +kernel
set_option maxHeartbeats 4000000 in
set_option maxRecDepth 100000 in
theorem w_X3_bringBack_22 {p : Program} {l : Launch} {e : Env} {s : State} {m : MethodId} {args : Array Value} {below : List Frame} {meth : Method} {c : Code} {G : GT} {A : Nat → Prop} (F : CallFix p m c cX3_bringBack 2 s args wsX3_bringBack RX3) (hr : meth.sig.returnType = none) (hlk : meth.locks = false) (hK : va_K G.1 vwCl (tyl G) s) (out : St) : ∀ (S : St) (H : Heap) (locs : List Loc) (ls : Array Slot), Wd shC idsC G A S H → va_S A s.heap H locs → lv_has ls 2 [] → j_X3_bringBack_22 S = some out → W p l e rm_X3_bringBack s m args below meth c H locs 0 0 (MQ below (QV shC idsC G A out) args s 0 0 A) (F0 m 22 ls []) := by
  intro S H locs ls hW hS hl h
  unfold j_X3_bringBack_22 at h
  exact rw_retv F hr hlk hK hW hS h dX3_bringBack_22
set_option maxHeartbeats 4000000 in
set_option maxRecDepth 100000 in
theorem c_X3_bringBack (l : Launch) (G : GT) (A : Nat → Prop) (a0 : Int32) (S : St) (out : St) (h : f_X3_bringBack a0 S = some out) : Met l yX3_bringBack wsX3_bringBack rm_X3_bringBack (va_Pc [.ref (G.2.2 4 0), .int a0] (WD shC idsC G A S)) (QV shC idsC G A out) 0 0 A := by
  refine Met.ofW (cc := cX3_bringBack) (maxL := 2) (ret := none) (by decide) rfl ?_
  intro p e s m args below meth c s₁ B hml hv
  obtain ⟨rfl, hW, hK⟩ := hv
  have F : CallFix p m c cX3_bringBack 2 s _ wsX3_bringBack RX3 := ⟨B.exec, B.bytes, hml, findClass_of_methodNamed B.named, atoms_spec (ws := wsX3_bringBack) B.pre⟩
  have hr := B.returns
  have hlk := B.notSynchronized
  have hS : va_S A s.heap s.heap [] := va_S.rf
  have hl := lv_entry ([.ref (G.2.2 4 0), .int a0]) (n := 2) (Nat.le_of_ble_eq_true rfl)
  rw [lg_entry_eq]
  generalize (lg_sl ([.ref (G.2.2 4 0), .int a0]) ++ List.replicate (2 - (lg_sl ([.ref (G.2.2 4 0), .int a0])).length) Slot.unset).toArray = ls at hl ⊢
  have hl : lv_has ls 2 [(0, .ref (G.2.2 4 0)), (1, .int a0)] := hl
  unfold f_X3_bringBack at h
  refine lv_iload_n F.1 F.2.1 dX3_bringBack_0 rfl (lv_at hl 1 rfl) ?_
  refine lv_if_lt (tgt := 22) F.1 F.2.1 dX3_bringBack_1 (by decide) (fun c_1 => ?_) (fun c_1 => ?_)
  · have h := (if_pos c_1).symm.trans h
    exact w_X3_bringBack_22 F hr hlk hK out  _ _ _ _  hW hS (lv_sub hl [] rfl) h
  · have h := (if_neg c_1).symm.trans h
    refine lv_iload_n F.1 F.2.1 dX3_bringBack_4 rfl (lv_at hl 1 rfl) ?_
    refine lv_aload_n F.1 F.2.1 dX3_bringBack_5 rfl (lv_at hl 0 rfl) ?_
    refine rw_get (q0 := 4) F hK hW idC_4 rfl rfl in_X3_bringBack_X3 1 (by decide) lk_X3_bringBack_17 rfl dX3_bringBack_6 ?_
    refine lv_icmp_ge (tgt := 22) F.1 F.2.1 dX3_bringBack_9 (by decide) (fun c_2 => ?_) (fun c_2 => ?_)
    · have h := (if_pos c_2).symm.trans h
      exact w_X3_bringBack_22 F hr hlk hK out  _ _ _ _  hW hS (lv_sub hl [] rfl) h
    · have h := (if_neg c_2).symm.trans h
      refine lv_aload_n F.1 F.2.1 dX3_bringBack_12 rfl (lv_at hl 0 rfl) ?_
      refine rw_get (q0 := 4) F hK hW idC_4 rfl rfl in_X3_bringBack_X3 0 (by decide) lk_X3_bringBack_11 rfl dX3_bringBack_13 ?_
      refine lv_iload_n F.1 F.2.1 dX3_bringBack_16 rfl (lv_at hl 1 rfl) ?_
      obtain ⟨b_3, h⟩ := gd_some h
      refine rw_aald (q0 := 44) F hK hW idC_24 (fun _ => rfl) (ix_in b_3) dX3_bringBack_17 ?_
      refine lv_iconst (v := 1) F.1 F.2.1 dX3_bringBack_18 (by decide) ?_
      refine rw_put ndC (q0 := 9 + a0.toNatClampNeg) (x := 1) F hK hW hS (idC_8 _ (ix_lt b_3)) rfl rfl in_X3_bringBack_X0 tyX0 tyX0_ok nmX0 6 (by decide) lk_X3_bringBack_22 rfl (ty := .boolean) (by decide +kernel) (by decide) (by decide) (Nat.le_of_ble_eq_true rfl) rfl dX3_bringBack_19 (fun H locs S_4 eS_4 hW hS => ?_)
      have h := lt_n eS_4 h
      exact w_X3_bringBack_22 F hr hlk hK out  _ _ _ _  hW hS (lv_sub hl [] rfl) h
/-! CellCover.takeBack(I)V -/
abbrev rm_X8_takeBack : Room := { frames := 2, cells := 0, slots := 0, locals := 44 }
theorem in_X8_takeBack_X8 : ∀ w ∈ wsX80, w ∈ wsX8_takeBack := by decide +kernel
theorem in_X8_takeBack_X7 : ∀ w ∈ wsX70, w ∈ wsX8_takeBack := by decide +kernel
theorem in_X8_takeBack_X5 : ∀ w ∈ wsX50, w ∈ wsX8_takeBack := by decide +kernel
theorem lk_X8_takeBack_12 : Cond.fieldLink RX8 12 "CellCover" "vertices" "LCellCover$Vertices;" ∈ wsX8_takeBack := by decide +kernel
theorem lk_X8_takeBack_19 : Cond.fieldLink RX8 19 "CellCover" "net" "LCellCover$Net;" ∈ wsX8_takeBack := by decide +kernel
theorem lk_X8_takeBack_73 : Cond.fieldLink RX8 73 "CellCover$Vertices" "many" "I" ∈ wsX8_takeBack := by decide +kernel
theorem lk_X8_takeBack_103 : Cond.fieldLink RX8 103 "CellCover$Net" "outputs" "I" ∈ wsX8_takeBack := by decide +kernel
theorem lk_X8_takeBack_33 : Cond.fieldLink RX8 33 "CellCover" "library" "LCellCover$Library;" ∈ wsX8_takeBack := by decide +kernel
set_option maxHeartbeats 4000000 in
set_option maxRecDepth 100000 in
theorem w_X8_takeBack_103 {p : Program} {l : Launch} {e : Env} {s : State} {m : MethodId} {args : Array Value} {below : List Frame} {meth : Method} {c : Code} {G : GT} {A : Nat → Prop} (F : CallFix p m c cX8_takeBack 2 s args wsX8_takeBack RX8) (hr : meth.sig.returnType = none) (hlk : meth.locks = false) (hK : va_K G.1 vwCl (tyl G) s) (out : St) : ∀ (S : St) (H : Heap) (locs : List Loc) (ls : Array Slot), Wd shC idsC G A S H → va_S A s.heap H locs → lv_has ls 2 [] → j_X8_takeBack_103 S = some out → W p l e rm_X8_takeBack s m args below meth c H locs 0 0 (MQ below (QV shC idsC G A out) args s 0 0 A) (F0 m 103 ls []) := by
  intro S H locs ls hW hS hl h
  unfold j_X8_takeBack_103 at h
  exact rw_retv F hr hlk hK hW hS h dX8_takeBack_103
set_option maxHeartbeats 4000000 in
set_option maxRecDepth 100000 in
theorem c_X8_takeBack (l : Launch) (G : GT) (A : Nat → Prop) (a0 : Int32) (S : St) (out : St) (h : f_X8_takeBack a0 S = some out) : Met l yX8_takeBack wsX8_takeBack rm_X8_takeBack (va_Pc [.ref (G.2.2 0 0), .int a0] (WD shC idsC G A S)) (QV shC idsC G A out) 0 0 A := by
  refine Met.ofW (cc := cX8_takeBack) (maxL := 2) (ret := none) (by decide) rfl ?_
  intro p e s m args below meth c s₁ B hml hv
  obtain ⟨rfl, hW, hK⟩ := hv
  have F : CallFix p m c cX8_takeBack 2 s _ wsX8_takeBack RX8 := ⟨B.exec, B.bytes, hml, findClass_of_methodNamed B.named, atoms_spec (ws := wsX8_takeBack) B.pre⟩
  have hr := B.returns
  have hlk := B.notSynchronized
  have hS : va_S A s.heap s.heap [] := va_S.rf
  have hl := lv_entry ([.ref (G.2.2 0 0), .int a0]) (n := 2) (Nat.le_of_ble_eq_true rfl)
  rw [lg_entry_eq]
  generalize (lg_sl ([.ref (G.2.2 0 0), .int a0]) ++ List.replicate (2 - (lg_sl ([.ref (G.2.2 0 0), .int a0])).length) Slot.unset).toArray = ls at hl ⊢
  have hl : lv_has ls 2 [(0, .ref (G.2.2 0 0)), (1, .int a0)] := hl
  unfold f_X8_takeBack at h
  refine lv_iload_n F.1 F.2.1 dX8_takeBack_0 rfl (lv_at hl 1 rfl) ?_
  by_cases c_1 : a0 = 0
  · have h := (if_pos c_1).symm.trans h
    refine lv_tableIn (off := 27) (tgt := 28) F.1 F.2.1 dX8_takeBack_1 (by rw [c_1]; decide) (by rw [c_1]; decide) (by rw [c_1]; rfl) (by decide) ?_
    refine lv_aload_n F.1 F.2.1 dX8_takeBack_28 rfl (lv_at hl 0 rfl) ?_
    refine rw_get (q0 := 0) F hK hW idC_0 rfl rfl in_X8_takeBack_X8 0 (by decide) lk_X8_takeBack_12 rfl dX8_takeBack_29 ?_
    refine lv_aload_n F.1 F.2.1 dX8_takeBack_32 rfl (lv_at hl 0 rfl) ?_
    refine rw_get (q0 := 0) F hK hW idC_0 rfl rfl in_X8_takeBack_X8 1 (by decide) lk_X8_takeBack_19 rfl dX8_takeBack_33 ?_
    obtain ⟨r_3, S_4, hq_2, h⟩ := bi_some h
    refine rw_vi F hK hW hS [] (rest := [.ref (G.2.2 1 0)]) (c_X5_removeNode l G A  S (r_3, S_4) hq_2) (cwV 0 F.2.2.2.2 gX8_takeBack_X5_removeNode rfl rfl rfl (by decide +kernel) ⟨Nat.le_of_ble_eq_true rfl, Nat.le_of_ble_eq_true rfl⟩) (rw_recv (q0 := 2) hK hW idC_2 rfl rfl) rfl hl.1 rfl (Nat.le_of_ble_eq_true rfl) dX8_takeBack_36 (fun H locs hW hS => ?_)
    refine rw_put ndC (q0 := 1) (x := r_3) F hK hW hS idC_1 rfl rfl in_X8_takeBack_X7 tyX7 tyX7_ok nmX7 6 (by decide) lk_X8_takeBack_73 rfl (ty := .int) (by decide +kernel) rfl rfl (Nat.le_of_ble_eq_true rfl) rfl dX8_takeBack_39 (fun H locs S_5 eS_5 hW hS => ?_)
    have h := lt_n eS_5 h
    refine lv_aload_n F.1 F.2.1 dX8_takeBack_42 rfl (lv_at hl 0 rfl) ?_
    refine rw_get (q0 := 0) F hK hW idC_0 rfl rfl in_X8_takeBack_X8 0 (by decide) lk_X8_takeBack_12 rfl dX8_takeBack_43 ?_
    refine lv_aload_n F.1 F.2.1 dX8_takeBack_46 rfl (lv_at hl 0 rfl) ?_
    refine rw_get (q0 := 0) F hK hW idC_0 rfl rfl in_X8_takeBack_X8 1 (by decide) lk_X8_takeBack_19 rfl dX8_takeBack_47 ?_
    obtain ⟨q_6, hq_6, h⟩ := bv_some h
    refine rw_vv F hK hW hS [.ref (G.2.2 2 0)] (rest := []) (c_X7_mark l G A  S_5 q_6 hq_6) (cwV 1 F.2.2.2.2 gX8_takeBack_X7_mark rfl rfl rfl (by decide +kernel) ⟨Nat.le_of_ble_eq_true rfl, Nat.le_of_ble_eq_true rfl⟩) (rw_recv (q0 := 1) hK hW idC_1 rfl rfl) rfl hl.1 rfl (Nat.le_of_ble_eq_true rfl) dX8_takeBack_50 (fun H locs hW hS => ?_)
    refine lv_goto (tgt := 103) F.1 F.2.1 dX8_takeBack_53 (by decide) ?_
    exact w_X8_takeBack_103 F hr hlk hK out  _ _ _ _  hW hS (lv_sub hl [] rfl) h
  · have h := (if_neg c_1).symm.trans h
    by_cases c_8 : a0 = 1
    · have h := (if_pos c_8).symm.trans h
      refine lv_tableIn (off := 55) (tgt := 56) F.1 F.2.1 dX8_takeBack_1 (by rw [c_8]; decide) (by rw [c_8]; decide) (by rw [c_8]; rfl) (by decide) ?_
      refine lv_aload_n F.1 F.2.1 dX8_takeBack_56 rfl (lv_at hl 0 rfl) ?_
      refine rw_get (q0 := 0) F hK hW idC_0 rfl rfl in_X8_takeBack_X8 1 (by decide) lk_X8_takeBack_19 rfl dX8_takeBack_57 ?_
      refine lv_dup F.1 F.2.1 dX8_takeBack_60 rfl ?_
      refine rw_get (q0 := 2) F hK hW idC_2 rfl rfl in_X8_takeBack_X5 10 (by decide) lk_X8_takeBack_103 rfl dX8_takeBack_61 ?_
      refine lv_iconst (v := 1) F.1 F.2.1 dX8_takeBack_64 (by decide) ?_
      refine lv_isub F.1 F.2.1 dX8_takeBack_65 ?_
      refine rw_put ndC (q0 := 2) (x := (S 2 0 10) - 1) F hK hW hS idC_2 rfl rfl in_X8_takeBack_X5 tyX5 tyX5_ok nmX5 10 (by decide) lk_X8_takeBack_103 rfl (ty := .int) (by decide +kernel) rfl rfl (Nat.le_of_ble_eq_true rfl) rfl dX8_takeBack_66 (fun H locs S_9 eS_9 hW hS => ?_)
      have h := lt_n eS_9 h
      refine lv_aload_n F.1 F.2.1 dX8_takeBack_69 rfl (lv_at hl 0 rfl) ?_
      refine rw_get (q0 := 0) F hK hW idC_0 rfl rfl in_X8_takeBack_X8 0 (by decide) lk_X8_takeBack_12 rfl dX8_takeBack_70 ?_
      refine lv_aload_n F.1 F.2.1 dX8_takeBack_73 rfl (lv_at hl 0 rfl) ?_
      refine rw_get (q0 := 0) F hK hW idC_0 rfl rfl in_X8_takeBack_X8 1 (by decide) lk_X8_takeBack_19 rfl dX8_takeBack_74 ?_
      obtain ⟨q_10, hq_10, h⟩ := bv_some h
      refine rw_vv F hK hW hS [.ref (G.2.2 2 0)] (rest := []) (c_X7_mark l G A  S_9 q_10 hq_10) (cwV 1 F.2.2.2.2 gX8_takeBack_X7_mark rfl rfl rfl (by decide +kernel) ⟨Nat.le_of_ble_eq_true rfl, Nat.le_of_ble_eq_true rfl⟩) (rw_recv (q0 := 1) hK hW idC_1 rfl rfl) rfl hl.1 rfl (Nat.le_of_ble_eq_true rfl) dX8_takeBack_77 (fun H locs hW hS => ?_)
      refine lv_goto (tgt := 103) F.1 F.2.1 dX8_takeBack_80 (by decide) ?_
      exact w_X8_takeBack_103 F hr hlk hK out  _ _ _ _  hW hS (lv_sub hl [] rfl) h
    · have h := (if_neg c_8).symm.trans h
      by_cases c_12 : a0 = 2
      · have h := (if_pos c_12).symm.trans h
        refine lv_tableIn (off := 82) (tgt := 83) F.1 F.2.1 dX8_takeBack_1 (by rw [c_12]; decide) (by rw [c_12]; decide) (by rw [c_12]; rfl) (by decide) ?_
        refine lv_aload_n F.1 F.2.1 dX8_takeBack_83 rfl (lv_at hl 0 rfl) ?_
        refine rw_get (q0 := 0) F hK hW idC_0 rfl rfl in_X8_takeBack_X8 3 (by decide) lk_X8_takeBack_33 rfl dX8_takeBack_84 ?_
        obtain ⟨q_13, hq_13, h⟩ := bv_some h
        refine rw_vv F hK hW hS [] (rest := []) (c_X3_forgetLatest l G A  S q_13 hq_13) (cwV 0 F.2.2.2.2 gX8_takeBack_X3_forgetLatest rfl rfl rfl (by decide +kernel) ⟨Nat.le_of_ble_eq_true rfl, Nat.le_of_ble_eq_true rfl⟩) (rw_recv (q0 := 4) hK hW idC_4 rfl rfl) rfl hl.1 rfl (Nat.le_of_ble_eq_true rfl) dX8_takeBack_87 (fun H locs hW hS => ?_)
        refine lv_goto (tgt := 103) F.1 F.2.1 dX8_takeBack_90 (by decide) ?_
        exact w_X8_takeBack_103 F hr hlk hK out  _ _ _ _  hW hS (lv_sub hl [] rfl) h
      · have h := (if_neg c_12).symm.trans h
        have nc_1 := lv_neT c_1 (a := 0) (by decide)
        have nc_8 := lv_neT c_8 (a := 1) (by decide)
        have nc_12 := lv_neT c_12 (a := 2) (by decide)
        refine lv_tableOut (tgt := 93) F.1 F.2.1 dX8_takeBack_1 (by omega) (by decide) ?_
        refine lv_aload_n F.1 F.2.1 dX8_takeBack_93 rfl (lv_at hl 0 rfl) ?_
        refine rw_get (q0 := 0) F hK hW idC_0 rfl rfl in_X8_takeBack_X8 3 (by decide) lk_X8_takeBack_33 rfl dX8_takeBack_94 ?_
        refine lv_iload_n F.1 F.2.1 dX8_takeBack_97 rfl (lv_at hl 1 rfl) ?_
        refine lv_iconst (v := 3) F.1 F.2.1 dX8_takeBack_98 (by decide) ?_
        refine lv_isub F.1 F.2.1 dX8_takeBack_99 ?_
        obtain ⟨q_15, hq_15, h⟩ := bv_some h
        refine rw_vv F hK hW hS [.int (a0 - 3)] (rest := []) (c_X3_bringBack l G A (a0 - 3) S q_15 hq_15) (cwV 1 F.2.2.2.2 gX8_takeBack_X3_bringBack rfl rfl rfl (by decide +kernel) ⟨Nat.le_of_ble_eq_true rfl, Nat.le_of_ble_eq_true rfl⟩) (rw_recv (q0 := 4) hK hW idC_4 rfl rfl) rfl hl.1 rfl (Nat.le_of_ble_eq_true rfl) dX8_takeBack_100 (fun H locs hW hS => ?_)
        exact w_X8_takeBack_103 F hr hlk hK out  _ _ _ _  hW hS (lv_sub hl [] rfl) h
/-! CellCover.undo()I -/
abbrev rm_X8_undo : Room := { frames := 3, cells := 0, slots := 0, locals := 65 }
theorem in_X8_undo_X8 : ∀ w ∈ wsX80, w ∈ wsX8_undo := by decide +kernel
theorem in_X8_undo_X2 : ∀ w ∈ wsX20, w ∈ wsX8_undo := by decide +kernel
theorem lk_X8_undo_61 : Cond.fieldLink RX8 61 "CellCover" "history" "LCellCover$History;" ∈ wsX8_undo := by decide +kernel
theorem lk_X8_undo_151 : Cond.fieldLink RX8 151 "CellCover$History" "many" "I" ∈ wsX8_undo := by decide +kernel
theorem lk_X8_undo_65 : Cond.fieldLink RX8 65 "CellCover" "covered" "Z" ∈ wsX8_undo := by decide +kernel
set_option maxHeartbeats 4000000 in
set_option maxRecDepth 100000 in
theorem c_X8_undo (l : Launch) (G : GT) (A : Nat → Prop) (S : St) (out : Int32 × St) (h : f_X8_undo S = some out) : Met l yX8_undo wsX8_undo rm_X8_undo (va_Pc [.ref (G.2.2 0 0)] (WD shC idsC G A S)) (QI shC idsC G A out) 0 0 A := by
  refine Met.ofW (cc := cX8_undo) (maxL := 1) (ret := (some .int)) (by decide) rfl ?_
  intro p e s m args below meth c s₁ B hml hv
  obtain ⟨rfl, hW, hK⟩ := hv
  have F : CallFix p m c cX8_undo 1 s _ wsX8_undo RX8 := ⟨B.exec, B.bytes, hml, findClass_of_methodNamed B.named, atoms_spec (ws := wsX8_undo) B.pre⟩
  have hr := B.returns
  have hlk := B.notSynchronized
  have hS : va_S A s.heap s.heap [] := va_S.rf
  have hl := lv_entry ([.ref (G.2.2 0 0)]) (n := 1) (Nat.le_of_ble_eq_true rfl)
  rw [lg_entry_eq]
  generalize (lg_sl ([.ref (G.2.2 0 0)]) ++ List.replicate (1 - (lg_sl ([.ref (G.2.2 0 0)])).length) Slot.unset).toArray = ls at hl ⊢
  have hl : lv_has ls 1 [(0, .ref (G.2.2 0 0))] := hl
  unfold f_X8_undo at h
  refine lv_aload_n F.1 F.2.1 dX8_undo_0 rfl (lv_at hl 0 rfl) ?_
  refine rw_get (q0 := 0) F hK hW idC_0 rfl rfl in_X8_undo_X8 7 (by decide) lk_X8_undo_61 rfl dX8_undo_1 ?_
  refine rw_get (q0 := 8) F hK hW idC_7 rfl rfl in_X8_undo_X2 1 (by decide) lk_X8_undo_151 rfl dX8_undo_4 ?_
  refine lv_if_gt (tgt := 13) F.1 F.2.1 dX8_undo_7 (by decide) (fun c_1 => ?_) (fun c_1 => ?_)
  · have h := (if_pos c_1).symm.trans h
    refine lv_aload_n F.1 F.2.1 dX8_undo_13 rfl (lv_at hl 0 rfl) ?_
    refine lv_aload_n F.1 F.2.1 dX8_undo_14 rfl (lv_at hl 0 rfl) ?_
    refine rw_get (q0 := 0) F hK hW idC_0 rfl rfl in_X8_undo_X8 7 (by decide) lk_X8_undo_61 rfl dX8_undo_15 ?_
    obtain ⟨r_3, S_4, hq_2, h⟩ := bi_some h
    refine rw_vi F hK hW hS [] (rest := [.ref (G.2.2 0 0)]) (c_X2_takeLatest l G A  S (r_3, S_4) hq_2) (cwV 0 F.2.2.2.2 gX8_undo_X2_takeLatest rfl rfl rfl (by decide +kernel) ⟨Nat.le_of_ble_eq_true rfl, Nat.le_of_ble_eq_true rfl⟩) (rw_recv (q0 := 8) hK hW idC_7 rfl rfl) rfl hl.1 rfl (Nat.le_of_ble_eq_true rfl) dX8_undo_18 (fun H locs hW hS => ?_)
    obtain ⟨q_5, hq_5, h⟩ := bv_some h
    refine rw_vv F hK hW hS [.int r_3] (rest := []) (c_X8_takeBack l G A r_3 S_4 q_5 hq_5) (cwV 1 F.2.2.2.2 gX8_undo_X8_takeBack rfl rfl rfl (by decide +kernel) ⟨Nat.le_of_ble_eq_true rfl, Nat.le_of_ble_eq_true rfl⟩) (rw_recv (q0 := 0) hK hW idC_0 rfl rfl) rfl hl.1 rfl (Nat.le_of_ble_eq_true rfl) dX8_undo_21 (fun H locs hW hS => ?_)
    refine lv_aload_n F.1 F.2.1 dX8_undo_24 rfl (lv_at hl 0 rfl) ?_
    refine lv_iconst (v := 0) F.1 F.2.1 dX8_undo_25 (by decide) ?_
    refine rw_put ndC (q0 := 0) (x := 0) F hK hW hS idC_0 rfl rfl in_X8_undo_X8 tyX8 tyX8_ok nmX8 8 (by decide) lk_X8_undo_65 rfl (ty := .boolean) (by decide +kernel) (by decide) (by decide) (Nat.le_of_ble_eq_true rfl) rfl dX8_undo_26 (fun H locs S_7 eS_7 hW hS => ?_)
    have h := lt_n eS_7 h
    refine lv_aload_n F.1 F.2.1 dX8_undo_29 rfl (lv_at hl 0 rfl) ?_
    refine rw_get (q0 := 0) F hK hW idC_0 rfl rfl in_X8_undo_X8 7 (by decide) lk_X8_undo_61 rfl dX8_undo_30 ?_
    refine rw_get (q0 := 8) F hK hW idC_7 rfl rfl in_X8_undo_X2 1 (by decide) lk_X8_undo_151 rfl dX8_undo_33 ?_
    exact rw_ret F hr hlk hK hW hS h dX8_undo_36
  · have h := (if_neg c_1).symm.trans h
    refine lv_bipush (v := -2) F.1 F.2.1 dX8_undo_10 (by decide) ?_
    exact rw_ret F hr hlk hK hW hS h dX8_undo_12
/-! CellCover.vertexOf(I)I -/
abbrev rm_X8_vertexOf : Room := { frames := 1, cells := 0, slots := 0, locals := 21 }
theorem in_X8_vertexOf_X8 : ∀ w ∈ wsX80, w ∈ wsX8_vertexOf := by decide +kernel
theorem in_X8_vertexOf_X5 : ∀ w ∈ wsX50, w ∈ wsX8_vertexOf := by decide +kernel
theorem lk_X8_vertexOf_19 : Cond.fieldLink RX8 19 "CellCover" "net" "LCellCover$Net;" ∈ wsX8_vertexOf := by decide +kernel
theorem lk_X8_vertexOf_92 : Cond.fieldLink RX8 92 "CellCover$Net" "vertexAt" "[I" ∈ wsX8_vertexOf := by decide +kernel
set_option maxHeartbeats 4000000 in
set_option maxRecDepth 100000 in
theorem w_X8_vertexOf_24 {p : Program} {l : Launch} {e : Env} {s : State} {m : MethodId} {args : Array Value} {below : List Frame} {meth : Method} {c : Code} {G : GT} {A : Nat → Prop} (F : CallFix p m c cX8_vertexOf 2 s args wsX8_vertexOf RX8) (hr : meth.sig.returnType = (some .int)) (hlk : meth.locks = false) (hK : va_K G.1 vwCl (tyl G) s) (out : Int32 × St) : ∀ (S : St) (y0 : Int32) (H : Heap) (locs : List Loc) (ls : Array Slot), Wd shC idsC G A S H → va_S A s.heap H locs → lv_has ls 2 [] → j_X8_vertexOf_24 S y0 = some out → W p l e rm_X8_vertexOf s m args below meth c H locs 0 0 (MQ below (QI shC idsC G A out) args s 0 0 A) (F0 m 24 ls [.int y0]) := by
  intro S y0 H locs ls hW hS hl h
  unfold j_X8_vertexOf_24 at h
  exact rw_ret F hr hlk hK hW hS h dX8_vertexOf_24
set_option maxHeartbeats 4000000 in
set_option maxRecDepth 100000 in
theorem c_X8_vertexOf (l : Launch) (G : GT) (A : Nat → Prop) (a0 : Int32) (S : St) (out : Int32 × St) (h : f_X8_vertexOf a0 S = some out) : Met l yX8_vertexOf wsX8_vertexOf rm_X8_vertexOf (va_Pc [.ref (G.2.2 0 0), .int a0] (WD shC idsC G A S)) (QI shC idsC G A out) 0 0 A := by
  refine Met.ofW (cc := cX8_vertexOf) (maxL := 2) (ret := (some .int)) (by decide) rfl ?_
  intro p e s m args below meth c s₁ B hml hv
  obtain ⟨rfl, hW, hK⟩ := hv
  have F : CallFix p m c cX8_vertexOf 2 s _ wsX8_vertexOf RX8 := ⟨B.exec, B.bytes, hml, findClass_of_methodNamed B.named, atoms_spec (ws := wsX8_vertexOf) B.pre⟩
  have hr := B.returns
  have hlk := B.notSynchronized
  have hS : va_S A s.heap s.heap [] := va_S.rf
  have hl := lv_entry ([.ref (G.2.2 0 0), .int a0]) (n := 2) (Nat.le_of_ble_eq_true rfl)
  rw [lg_entry_eq]
  generalize (lg_sl ([.ref (G.2.2 0 0), .int a0]) ++ List.replicate (2 - (lg_sl ([.ref (G.2.2 0 0), .int a0])).length) Slot.unset).toArray = ls at hl ⊢
  have hl : lv_has ls 2 [(0, .ref (G.2.2 0 0)), (1, .int a0)] := hl
  unfold f_X8_vertexOf at h
  refine lv_aload_n F.1 F.2.1 dX8_vertexOf_0 rfl (lv_at hl 0 rfl) ?_
  refine rw_get (q0 := 0) F hK hW idC_0 rfl rfl in_X8_vertexOf_X8 1 (by decide) lk_X8_vertexOf_19 rfl dX8_vertexOf_1 ?_
  refine lv_iload_n F.1 F.2.1 dX8_vertexOf_4 rfl (lv_at hl 1 rfl) ?_
  obtain ⟨r_2, S_3, hq_1, h⟩ := bi_some h
  refine rw_vi F hK hW hS [.int a0] (rest := []) (c_X5_hasNode l G A a0 S (r_2, S_3) hq_1) (cwV 1 F.2.2.2.2 gX8_vertexOf_X5_hasNode rfl rfl rfl (by decide +kernel) ⟨Nat.le_of_ble_eq_true rfl, Nat.le_of_ble_eq_true rfl⟩) (rw_recv (q0 := 2) hK hW idC_2 rfl rfl) rfl hl.1 rfl (Nat.le_of_ble_eq_true rfl) dX8_vertexOf_5 (fun H locs hW hS => ?_)
  refine lv_if_eq (tgt := 23) F.1 F.2.1 dX8_vertexOf_8 (by decide) (fun c_4 => ?_) (fun c_4 => ?_)
  · have h := (if_pos c_4).symm.trans h
    refine lv_iconst (v := -1) F.1 F.2.1 dX8_vertexOf_23 (by decide) ?_
    exact w_X8_vertexOf_24 F hr hlk hK out  _ _ _ _ _  hW hS (lv_sub hl [] rfl) h
  · have h := (if_neg c_4).symm.trans h
    refine lv_aload_n F.1 F.2.1 dX8_vertexOf_11 rfl (lv_at hl 0 rfl) ?_
    refine rw_get (q0 := 0) F hK hW idC_0 rfl rfl in_X8_vertexOf_X8 1 (by decide) lk_X8_vertexOf_19 rfl dX8_vertexOf_12 ?_
    refine rw_get (q0 := 2) F hK hW idC_2 rfl rfl in_X8_vertexOf_X5 7 (by decide) lk_X8_vertexOf_92 rfl dX8_vertexOf_15 ?_
    refine lv_iload_n F.1 F.2.1 dX8_vertexOf_18 rfl (lv_at hl 1 rfl) ?_
    obtain ⟨b_5, h⟩ := gd_some h
    refine rw_iald (q0 := 42) F hK hW idC_22 (fun _ => rfl) (ix_in b_5) dX8_vertexOf_19 ?_
    refine lv_topi (fun v_6 ev_6 => ?_)
    have h := lt_n ev_6 h
    refine lv_goto (tgt := 24) F.1 F.2.1 dX8_vertexOf_20 (by decide) ?_
    exact w_X8_vertexOf_24 F hr hlk hK out  _ _ _ _ _  hW hS (lv_sub hl [] rfl) h
/-! CellCover$Vertices.has(I)Z -/
abbrev rm_X7_has : Room := { frames := 0, cells := 0, slots := 0, locals := 0 }
theorem in_X7_has_X7 : ∀ w ∈ wsX70, w ∈ wsX7_has := by decide +kernel
theorem lk_X7_has_31 : Cond.fieldLink RX7 31 "CellCover$Vertices" "many" "I" ∈ wsX7_has := by decide +kernel
set_option maxHeartbeats 4000000 in
set_option maxRecDepth 100000 in
theorem w_X7_has_17 {p : Program} {l : Launch} {e : Env} {s : State} {m : MethodId} {args : Array Value} {below : List Frame} {meth : Method} {c : Code} {G : GT} {A : Nat → Prop} (F : CallFix p m c cX7_has 2 s args wsX7_has RX7) (hr : meth.sig.returnType = (some .boolean)) (hlk : meth.locks = false) (hK : va_K G.1 vwCl (tyl G) s) (out : Int32 × St) : ∀ (S : St) (y0 : Int32) (H : Heap) (locs : List Loc) (ls : Array Slot), Wd shC idsC G A S H → va_S A s.heap H locs → lv_has ls 2 [] → j_X7_has_17 S y0 = some out → W p l e rm_X7_has s m args below meth c H locs 0 0 (MQ below (QI shC idsC G A out) args s 0 0 A) (F0 m 17 ls [.int y0]) := by
  intro S y0 H locs ls hW hS hl h
  unfold j_X7_has_17 at h
  obtain ⟨b_2, h⟩ := gd_some h
  exact rw_retz F hr hlk hK hW hS b_2 h dX7_has_17
set_option maxHeartbeats 4000000 in
set_option maxRecDepth 100000 in
theorem w_X7_has_16 {p : Program} {l : Launch} {e : Env} {s : State} {m : MethodId} {args : Array Value} {below : List Frame} {meth : Method} {c : Code} {G : GT} {A : Nat → Prop} (F : CallFix p m c cX7_has 2 s args wsX7_has RX7) (hr : meth.sig.returnType = (some .boolean)) (hlk : meth.locks = false) (hK : va_K G.1 vwCl (tyl G) s) (out : Int32 × St) : ∀ (S : St) (H : Heap) (locs : List Loc) (ls : Array Slot), Wd shC idsC G A S H → va_S A s.heap H locs → lv_has ls 2 [] → j_X7_has_16 S = some out → W p l e rm_X7_has s m args below meth c H locs 0 0 (MQ below (QI shC idsC G A out) args s 0 0 A) (F0 m 16 ls []) := by
  intro S H locs ls hW hS hl h
  unfold j_X7_has_16 at h
  refine lv_iconst (v := 0) F.1 F.2.1 dX7_has_16 (by decide) ?_
  exact w_X7_has_17 F hr hlk hK out  _ _ _ _ _  hW hS hl h
set_option maxHeartbeats 4000000 in
set_option maxRecDepth 100000 in
theorem c_X7_has (l : Launch) (G : GT) (A : Nat → Prop) (a0 : Int32) (S : St) (out : Int32 × St) (h : f_X7_has a0 S = some out) : Met l yX7_has wsX7_has rm_X7_has (va_Pc [.ref (G.2.2 1 0), .int a0] (WD shC idsC G A S)) (QI shC idsC G A out) 0 0 A := by
  refine Met.ofW (cc := cX7_has) (maxL := 2) (ret := (some .boolean)) (by decide) rfl ?_
  intro p e s m args below meth c s₁ B hml hv
  obtain ⟨rfl, hW, hK⟩ := hv
  have F : CallFix p m c cX7_has 2 s _ wsX7_has RX7 := ⟨B.exec, B.bytes, hml, findClass_of_methodNamed B.named, atoms_spec (ws := wsX7_has) B.pre⟩
  have hr := B.returns
  have hlk := B.notSynchronized
  have hS : va_S A s.heap s.heap [] := va_S.rf
  have hl := lv_entry ([.ref (G.2.2 1 0), .int a0]) (n := 2) (Nat.le_of_ble_eq_true rfl)
  rw [lg_entry_eq]
  generalize (lg_sl ([.ref (G.2.2 1 0), .int a0]) ++ List.replicate (2 - (lg_sl ([.ref (G.2.2 1 0), .int a0])).length) Slot.unset).toArray = ls at hl ⊢
  have hl : lv_has ls 2 [(0, .ref (G.2.2 1 0)), (1, .int a0)] := hl
  unfold f_X7_has at h
  refine lv_iload_n F.1 F.2.1 dX7_has_0 rfl (lv_at hl 1 rfl) ?_
  refine lv_if_lt (tgt := 16) F.1 F.2.1 dX7_has_1 (by decide) (fun c_1 => ?_) (fun c_1 => ?_)
  · have h := (if_pos c_1).symm.trans h
    exact w_X7_has_16 F hr hlk hK out  _ _ _ _  hW hS (lv_sub hl [] rfl) h
  · have h := (if_neg c_1).symm.trans h
    refine lv_iload_n F.1 F.2.1 dX7_has_4 rfl (lv_at hl 1 rfl) ?_
    refine lv_aload_n F.1 F.2.1 dX7_has_5 rfl (lv_at hl 0 rfl) ?_
    refine rw_get (q0 := 1) F hK hW idC_1 rfl rfl in_X7_has_X7 6 (by decide) lk_X7_has_31 rfl dX7_has_6 ?_
    refine lv_icmp_ge (tgt := 16) F.1 F.2.1 dX7_has_9 (by decide) (fun c_3 => ?_) (fun c_3 => ?_)
    · have h := (if_pos c_3).symm.trans h
      exact w_X7_has_16 F hr hlk hK out  _ _ _ _  hW hS (lv_sub hl [] rfl) h
    · have h := (if_neg c_3).symm.trans h
      refine lv_iconst (v := 1) F.1 F.2.1 dX7_has_12 (by decide) ?_
      refine lv_goto (tgt := 17) F.1 F.2.1 dX7_has_13 (by decide) ?_
      exact w_X7_has_17 F hr hlk hK out  _ _ _ _ _  hW hS (lv_sub hl [] rfl) h
/-! CellCover.vertex(II)I -/
abbrev rm_X8_vertex : Room := { frames := 1, cells := 0, slots := 0, locals := 21 }
theorem in_X8_vertex_X8 : ∀ w ∈ wsX80, w ∈ wsX8_vertex := by decide +kernel
theorem in_X8_vertex_X7 : ∀ w ∈ wsX70, w ∈ wsX8_vertex := by decide +kernel
theorem lk_X8_vertex_12 : Cond.fieldLink RX8 12 "CellCover" "vertices" "LCellCover$Vertices;" ∈ wsX8_vertex := by decide +kernel
theorem lk_X8_vertex_159 : Cond.fieldLink RX8 159 "CellCover$Vertices" "form" "[I" ∈ wsX8_vertex := by decide +kernel
theorem lk_X8_vertex_162 : Cond.fieldLink RX8 162 "CellCover$Vertices" "first" "[I" ∈ wsX8_vertex := by decide +kernel
theorem lk_X8_vertex_165 : Cond.fieldLink RX8 165 "CellCover$Vertices" "second" "[I" ∈ wsX8_vertex := by decide +kernel
theorem lk_X8_vertex_168 : Cond.fieldLink RX8 168 "CellCover$Vertices" "uses" "[I" ∈ wsX8_vertex := by decide +kernel
theorem lk_X8_vertex_171 : Cond.fieldLink RX8 171 "CellCover$Vertices" "root" "[Z" ∈ wsX8_vertex := by decide +kernel
theorem lk_X8_vertex_175 : Cond.fieldLink RX8 175 "CellCover$Vertices" "lives" "[Z" ∈ wsX8_vertex := by decide +kernel
set_option maxHeartbeats 4000000 in
set_option maxRecDepth 100000 in
theorem w_X8_vertex_109 {p : Program} {l : Launch} {e : Env} {s : State} {m : MethodId} {args : Array Value} {below : List Frame} {meth : Method} {c : Code} {G : GT} {A : Nat → Prop} (F : CallFix p m c cX8_vertex 3 s args wsX8_vertex RX8) (hr : meth.sig.returnType = (some .int)) (hlk : meth.locks = false) (hK : va_K G.1 vwCl (tyl G) s) (out : Int32 × St) : ∀ (S : St) (y0 : Int32) (H : Heap) (locs : List Loc) (ls : Array Slot), Wd shC idsC G A S H → va_S A s.heap H locs → lv_has ls 3 [] → j_X8_vertex_109 S y0 = some out → W p l e rm_X8_vertex s m args below meth c H locs 0 0 (MQ below (QI shC idsC G A out) args s 0 0 A) (F0 m 109 ls [.int y0]) := by
  intro S y0 H locs ls hW hS hl h
  unfold j_X8_vertex_109 at h
  exact rw_ret F hr hlk hK hW hS h dX8_vertex_109
set_option maxHeartbeats 4000000 in
set_option maxRecDepth 100000 in
theorem w_X8_vertex_127 {p : Program} {l : Launch} {e : Env} {s : State} {m : MethodId} {args : Array Value} {below : List Frame} {meth : Method} {c : Code} {G : GT} {A : Nat → Prop} (F : CallFix p m c cX8_vertex 3 s args wsX8_vertex RX8) (hr : meth.sig.returnType = (some .int)) (hlk : meth.locks = false) (hK : va_K G.1 vwCl (tyl G) s) (out : Int32 × St) : ∀ (S : St) (y0 : Int32) (H : Heap) (locs : List Loc) (ls : Array Slot), Wd shC idsC G A S H → va_S A s.heap H locs → lv_has ls 3 [] → j_X8_vertex_127 S y0 = some out → W p l e rm_X8_vertex s m args below meth c H locs 0 0 (MQ below (QI shC idsC G A out) args s 0 0 A) (F0 m 127 ls [.int y0]) := by
  intro S y0 H locs ls hW hS hl h
  unfold j_X8_vertex_127 at h
  exact rw_ret F hr hlk hK hW hS h dX8_vertex_127
set_option maxHeartbeats 4000000 in
set_option maxRecDepth 100000 in
theorem c_X8_vertex (l : Launch) (G : GT) (A : Nat → Prop) (a0 : Int32) (a1 : Int32) (S : St) (out : Int32 × St) (h : f_X8_vertex a0 a1 S = some out) : Met l yX8_vertex wsX8_vertex rm_X8_vertex (va_Pc [.ref (G.2.2 0 0), .int a0, .int a1] (WD shC idsC G A S)) (QI shC idsC G A out) 0 0 A := by
  refine Met.ofW (cc := cX8_vertex) (maxL := 3) (ret := (some .int)) (by decide) rfl ?_
  intro p e s m args below meth c s₁ B hml hv
  obtain ⟨rfl, hW, hK⟩ := hv
  have F : CallFix p m c cX8_vertex 3 s _ wsX8_vertex RX8 := ⟨B.exec, B.bytes, hml, findClass_of_methodNamed B.named, atoms_spec (ws := wsX8_vertex) B.pre⟩
  have hr := B.returns
  have hlk := B.notSynchronized
  have hS : va_S A s.heap s.heap [] := va_S.rf
  have hl := lv_entry ([.ref (G.2.2 0 0), .int a0, .int a1]) (n := 3) (Nat.le_of_ble_eq_true rfl)
  rw [lg_entry_eq]
  generalize (lg_sl ([.ref (G.2.2 0 0), .int a0, .int a1]) ++ List.replicate (3 - (lg_sl ([.ref (G.2.2 0 0), .int a0, .int a1])).length) Slot.unset).toArray = ls at hl ⊢
  have hl : lv_has ls 3 [(0, .ref (G.2.2 0 0)), (1, .int a0), (2, .int a1)] := hl
  unfold f_X8_vertex at h
  refine lv_aload_n F.1 F.2.1 dX8_vertex_0 rfl (lv_at hl 0 rfl) ?_
  refine rw_get (q0 := 0) F hK hW idC_0 rfl rfl in_X8_vertex_X8 0 (by decide) lk_X8_vertex_12 rfl dX8_vertex_1 ?_
  refine lv_iload_n F.1 F.2.1 dX8_vertex_4 rfl (lv_at hl 1 rfl) ?_
  obtain ⟨r_2, S_3, hq_1, h⟩ := bi_some h
  refine rw_vi F hK hW hS [.int a0] (rest := []) (c_X7_has l G A a0 S (r_2, S_3) hq_1) (cwV 1 F.2.2.2.2 gX8_vertex_X7_has rfl rfl rfl (by decide +kernel) ⟨Nat.le_of_ble_eq_true rfl, Nat.le_of_ble_eq_true rfl⟩) (rw_recv (q0 := 1) hK hW idC_1 rfl rfl) rfl hl.1 rfl (Nat.le_of_ble_eq_true rfl) dX8_vertex_5 (fun H locs hW hS => ?_)
  refine lv_if_ne (tgt := 13) F.1 F.2.1 dX8_vertex_8 (by decide) (fun c_4 => ?_) (fun c_4 => ?_)
  · have h := (if_neg c_4).symm.trans h
    refine lv_iload_n F.1 F.2.1 dX8_vertex_13 rfl (lv_at hl 2 rfl) ?_
    by_cases c_5 : a1 = 0
    · have h := (if_pos c_5).symm.trans h
      refine lv_tableIn (off := 38) (tgt := 52) F.1 F.2.1 dX8_vertex_14 (by rw [c_5]; decide) (by rw [c_5]; decide) (by rw [c_5]; rfl) (by decide) ?_
      refine lv_aload_n F.1 F.2.1 dX8_vertex_52 rfl (lv_at hl 0 rfl) ?_
      refine rw_get (q0 := 0) F hK hW idC_0 rfl rfl in_X8_vertex_X8 0 (by decide) lk_X8_vertex_12 rfl dX8_vertex_53 ?_
      refine rw_get (q0 := 1) F hK hW idC_1 rfl rfl in_X8_vertex_X7 0 (by decide) lk_X8_vertex_159 rfl dX8_vertex_56 ?_
      refine lv_iload_n F.1 F.2.1 dX8_vertex_59 rfl (lv_at hl 1 rfl) ?_
      obtain ⟨b_6, h⟩ := gd_some h
      refine rw_iald (q0 := 29) F hK hW idC_9 (fun _ => rfl) (ix_in b_6) dX8_vertex_60 ?_
      refine lv_topi (fun v_7 ev_7 => ?_)
      have h := lt_n ev_7 h
      exact rw_ret F hr hlk hK hW hS h dX8_vertex_61
    · have h := (if_neg c_5).symm.trans h
      by_cases c_8 : a1 = 1
      · have h := (if_pos c_8).symm.trans h
        refine lv_tableIn (off := 48) (tgt := 62) F.1 F.2.1 dX8_vertex_14 (by rw [c_8]; decide) (by rw [c_8]; decide) (by rw [c_8]; rfl) (by decide) ?_
        refine lv_aload_n F.1 F.2.1 dX8_vertex_62 rfl (lv_at hl 0 rfl) ?_
        refine rw_get (q0 := 0) F hK hW idC_0 rfl rfl in_X8_vertex_X8 0 (by decide) lk_X8_vertex_12 rfl dX8_vertex_63 ?_
        refine rw_get (q0 := 1) F hK hW idC_1 rfl rfl in_X8_vertex_X7 1 (by decide) lk_X8_vertex_162 rfl dX8_vertex_66 ?_
        refine lv_iload_n F.1 F.2.1 dX8_vertex_69 rfl (lv_at hl 1 rfl) ?_
        obtain ⟨b_9, h⟩ := gd_some h
        refine rw_iald (q0 := 30) F hK hW idC_10 (fun _ => rfl) (ix_in b_9) dX8_vertex_70 ?_
        refine lv_topi (fun v_10 ev_10 => ?_)
        have h := lt_n ev_10 h
        exact rw_ret F hr hlk hK hW hS h dX8_vertex_71
      · have h := (if_neg c_8).symm.trans h
        by_cases c_11 : a1 = 2
        · have h := (if_pos c_11).symm.trans h
          refine lv_tableIn (off := 58) (tgt := 72) F.1 F.2.1 dX8_vertex_14 (by rw [c_11]; decide) (by rw [c_11]; decide) (by rw [c_11]; rfl) (by decide) ?_
          refine lv_aload_n F.1 F.2.1 dX8_vertex_72 rfl (lv_at hl 0 rfl) ?_
          refine rw_get (q0 := 0) F hK hW idC_0 rfl rfl in_X8_vertex_X8 0 (by decide) lk_X8_vertex_12 rfl dX8_vertex_73 ?_
          refine rw_get (q0 := 1) F hK hW idC_1 rfl rfl in_X8_vertex_X7 2 (by decide) lk_X8_vertex_165 rfl dX8_vertex_76 ?_
          refine lv_iload_n F.1 F.2.1 dX8_vertex_79 rfl (lv_at hl 1 rfl) ?_
          obtain ⟨b_12, h⟩ := gd_some h
          refine rw_iald (q0 := 31) F hK hW idC_11 (fun _ => rfl) (ix_in b_12) dX8_vertex_80 ?_
          refine lv_topi (fun v_13 ev_13 => ?_)
          have h := lt_n ev_13 h
          exact rw_ret F hr hlk hK hW hS h dX8_vertex_81
        · have h := (if_neg c_11).symm.trans h
          by_cases c_14 : a1 = 3
          · have h := (if_pos c_14).symm.trans h
            refine lv_tableIn (off := 68) (tgt := 82) F.1 F.2.1 dX8_vertex_14 (by rw [c_14]; decide) (by rw [c_14]; decide) (by rw [c_14]; rfl) (by decide) ?_
            refine lv_aload_n F.1 F.2.1 dX8_vertex_82 rfl (lv_at hl 0 rfl) ?_
            refine rw_get (q0 := 0) F hK hW idC_0 rfl rfl in_X8_vertex_X8 0 (by decide) lk_X8_vertex_12 rfl dX8_vertex_83 ?_
            refine rw_get (q0 := 1) F hK hW idC_1 rfl rfl in_X8_vertex_X7 3 (by decide) lk_X8_vertex_168 rfl dX8_vertex_86 ?_
            refine lv_iload_n F.1 F.2.1 dX8_vertex_89 rfl (lv_at hl 1 rfl) ?_
            obtain ⟨b_15, h⟩ := gd_some h
            refine rw_iald (q0 := 32) F hK hW idC_12 (fun _ => rfl) (ix_in b_15) dX8_vertex_90 ?_
            refine lv_topi (fun v_16 ev_16 => ?_)
            have h := lt_n ev_16 h
            exact rw_ret F hr hlk hK hW hS h dX8_vertex_91
          · have h := (if_neg c_14).symm.trans h
            by_cases c_17 : a1 = 4
            · have h := (if_pos c_17).symm.trans h
              refine lv_tableIn (off := 78) (tgt := 92) F.1 F.2.1 dX8_vertex_14 (by rw [c_17]; decide) (by rw [c_17]; decide) (by rw [c_17]; rfl) (by decide) ?_
              refine lv_aload_n F.1 F.2.1 dX8_vertex_92 rfl (lv_at hl 0 rfl) ?_
              refine rw_get (q0 := 0) F hK hW idC_0 rfl rfl in_X8_vertex_X8 0 (by decide) lk_X8_vertex_12 rfl dX8_vertex_93 ?_
              refine rw_get (q0 := 1) F hK hW idC_1 rfl rfl in_X8_vertex_X7 5 (by decide) lk_X8_vertex_171 rfl dX8_vertex_96 ?_
              refine lv_iload_n F.1 F.2.1 dX8_vertex_99 rfl (lv_at hl 1 rfl) ?_
              obtain ⟨b_18, h⟩ := gd_some h
              refine rw_zald (q0 := 34) F hK hW idC_14 (fun _ => rfl) (ix_in b_18) dX8_vertex_100 ?_
              refine lv_topi (fun v_19 ev_19 => ?_)
              have h := lt_n ev_19 h
              refine lv_if_eq (tgt := 108) F.1 F.2.1 dX8_vertex_101 (by decide) (fun c_20 => ?_) (fun c_20 => ?_)
              · have h := (if_pos c_20).symm.trans h
                refine lv_iconst (v := 0) F.1 F.2.1 dX8_vertex_108 (by decide) ?_
                exact w_X8_vertex_109 F hr hlk hK out  _ _ _ _ _  hW hS (lv_sub hl [] rfl) h
              · have h := (if_neg c_20).symm.trans h
                refine lv_iconst (v := 1) F.1 F.2.1 dX8_vertex_104 (by decide) ?_
                refine lv_goto (tgt := 109) F.1 F.2.1 dX8_vertex_105 (by decide) ?_
                exact w_X8_vertex_109 F hr hlk hK out  _ _ _ _ _  hW hS (lv_sub hl [] rfl) h
            · have h := (if_neg c_17).symm.trans h
              by_cases c_21 : a1 = 5
              · have h := (if_pos c_21).symm.trans h
                refine lv_tableIn (off := 96) (tgt := 110) F.1 F.2.1 dX8_vertex_14 (by rw [c_21]; decide) (by rw [c_21]; decide) (by rw [c_21]; rfl) (by decide) ?_
                refine lv_aload_n F.1 F.2.1 dX8_vertex_110 rfl (lv_at hl 0 rfl) ?_
                refine rw_get (q0 := 0) F hK hW idC_0 rfl rfl in_X8_vertex_X8 0 (by decide) lk_X8_vertex_12 rfl dX8_vertex_111 ?_
                refine rw_get (q0 := 1) F hK hW idC_1 rfl rfl in_X8_vertex_X7 4 (by decide) lk_X8_vertex_175 rfl dX8_vertex_114 ?_
                refine lv_iload_n F.1 F.2.1 dX8_vertex_117 rfl (lv_at hl 1 rfl) ?_
                obtain ⟨b_22, h⟩ := gd_some h
                refine rw_zald (q0 := 33) F hK hW idC_13 (fun _ => rfl) (ix_in b_22) dX8_vertex_118 ?_
                refine lv_topi (fun v_23 ev_23 => ?_)
                have h := lt_n ev_23 h
                refine lv_if_eq (tgt := 126) F.1 F.2.1 dX8_vertex_119 (by decide) (fun c_24 => ?_) (fun c_24 => ?_)
                · have h := (if_pos c_24).symm.trans h
                  refine lv_iconst (v := 0) F.1 F.2.1 dX8_vertex_126 (by decide) ?_
                  exact w_X8_vertex_127 F hr hlk hK out  _ _ _ _ _  hW hS (lv_sub hl [] rfl) h
                · have h := (if_neg c_24).symm.trans h
                  refine lv_iconst (v := 1) F.1 F.2.1 dX8_vertex_122 (by decide) ?_
                  refine lv_goto (tgt := 127) F.1 F.2.1 dX8_vertex_123 (by decide) ?_
                  exact w_X8_vertex_127 F hr hlk hK out  _ _ _ _ _  hW hS (lv_sub hl [] rfl) h
              · have h := (if_neg c_21).symm.trans h
                have nc_5 := lv_neT c_5 (a := 0) (by decide)
                have nc_8 := lv_neT c_8 (a := 1) (by decide)
                have nc_11 := lv_neT c_11 (a := 2) (by decide)
                have nc_14 := lv_neT c_14 (a := 3) (by decide)
                have nc_17 := lv_neT c_17 (a := 4) (by decide)
                have nc_21 := lv_neT c_21 (a := 5) (by decide)
                refine lv_tableOut (tgt := 128) F.1 F.2.1 dX8_vertex_14 (by omega) (by decide) ?_
                refine lv_iconst (v := -1) F.1 F.2.1 dX8_vertex_128 (by decide) ?_
                exact rw_ret F hr hlk hK hW hS h dX8_vertex_129
  · have h := (if_pos c_4).symm.trans h
    refine lv_iconst (v := -1) F.1 F.2.1 dX8_vertex_11 (by decide) ?_
    exact rw_ret F hr hlk hK hW hS h dX8_vertex_12
/-! CellCover$Vertices.isAlive(I)Z -/
abbrev rm_X7_isAlive : Room := { frames := 1, cells := 0, slots := 0, locals := 21 }
theorem in_X7_isAlive_X7 : ∀ w ∈ wsX70, w ∈ wsX7_isAlive := by decide +kernel
theorem lk_X7_isAlive_24 : Cond.fieldLink RX7 24 "CellCover$Vertices" "lives" "[Z" ∈ wsX7_isAlive := by decide +kernel
set_option maxHeartbeats 4000000 in
set_option maxRecDepth 100000 in
theorem w_X7_isAlive_22 {p : Program} {l : Launch} {e : Env} {s : State} {m : MethodId} {args : Array Value} {below : List Frame} {meth : Method} {c : Code} {G : GT} {A : Nat → Prop} (F : CallFix p m c cX7_isAlive 2 s args wsX7_isAlive RX7) (hr : meth.sig.returnType = (some .boolean)) (hlk : meth.locks = false) (hK : va_K G.1 vwCl (tyl G) s) (out : Int32 × St) : ∀ (S : St) (y0 : Int32) (H : Heap) (locs : List Loc) (ls : Array Slot), Wd shC idsC G A S H → va_S A s.heap H locs → lv_has ls 2 [] → j_X7_isAlive_22 S y0 = some out → W p l e rm_X7_isAlive s m args below meth c H locs 0 0 (MQ below (QI shC idsC G A out) args s 0 0 A) (F0 m 22 ls [.int y0]) := by
  intro S y0 H locs ls hW hS hl h
  unfold j_X7_isAlive_22 at h
  obtain ⟨b_5, h⟩ := gd_some h
  exact rw_retz F hr hlk hK hW hS b_5 h dX7_isAlive_22
set_option maxHeartbeats 4000000 in
set_option maxRecDepth 100000 in
theorem w_X7_isAlive_21 {p : Program} {l : Launch} {e : Env} {s : State} {m : MethodId} {args : Array Value} {below : List Frame} {meth : Method} {c : Code} {G : GT} {A : Nat → Prop} (F : CallFix p m c cX7_isAlive 2 s args wsX7_isAlive RX7) (hr : meth.sig.returnType = (some .boolean)) (hlk : meth.locks = false) (hK : va_K G.1 vwCl (tyl G) s) (out : Int32 × St) : ∀ (S : St) (H : Heap) (locs : List Loc) (ls : Array Slot), Wd shC idsC G A S H → va_S A s.heap H locs → lv_has ls 2 [] → j_X7_isAlive_21 S = some out → W p l e rm_X7_isAlive s m args below meth c H locs 0 0 (MQ below (QI shC idsC G A out) args s 0 0 A) (F0 m 21 ls []) := by
  intro S H locs ls hW hS hl h
  unfold j_X7_isAlive_21 at h
  refine lv_iconst (v := 0) F.1 F.2.1 dX7_isAlive_21 (by decide) ?_
  exact w_X7_isAlive_22 F hr hlk hK out  _ _ _ _ _  hW hS hl h
set_option maxHeartbeats 4000000 in
set_option maxRecDepth 100000 in
theorem c_X7_isAlive (l : Launch) (G : GT) (A : Nat → Prop) (a0 : Int32) (S : St) (out : Int32 × St) (h : f_X7_isAlive a0 S = some out) : Met l yX7_isAlive wsX7_isAlive rm_X7_isAlive (va_Pc [.ref (G.2.2 1 0), .int a0] (WD shC idsC G A S)) (QI shC idsC G A out) 0 0 A := by
  refine Met.ofW (cc := cX7_isAlive) (maxL := 2) (ret := (some .boolean)) (by decide) rfl ?_
  intro p e s m args below meth c s₁ B hml hv
  obtain ⟨rfl, hW, hK⟩ := hv
  have F : CallFix p m c cX7_isAlive 2 s _ wsX7_isAlive RX7 := ⟨B.exec, B.bytes, hml, findClass_of_methodNamed B.named, atoms_spec (ws := wsX7_isAlive) B.pre⟩
  have hr := B.returns
  have hlk := B.notSynchronized
  have hS : va_S A s.heap s.heap [] := va_S.rf
  have hl := lv_entry ([.ref (G.2.2 1 0), .int a0]) (n := 2) (Nat.le_of_ble_eq_true rfl)
  rw [lg_entry_eq]
  generalize (lg_sl ([.ref (G.2.2 1 0), .int a0]) ++ List.replicate (2 - (lg_sl ([.ref (G.2.2 1 0), .int a0])).length) Slot.unset).toArray = ls at hl ⊢
  have hl : lv_has ls 2 [(0, .ref (G.2.2 1 0)), (1, .int a0)] := hl
  unfold f_X7_isAlive at h
  refine lv_aload_n F.1 F.2.1 dX7_isAlive_0 rfl (lv_at hl 0 rfl) ?_
  refine lv_iload_n F.1 F.2.1 dX7_isAlive_1 rfl (lv_at hl 1 rfl) ?_
  obtain ⟨r_2, S_3, hq_1, h⟩ := bi_some h
  refine rw_vi F hK hW hS [.int a0] (rest := []) (c_X7_has l G A a0 S (r_2, S_3) hq_1) (cwV 1 F.2.2.2.2 gX7_isAlive_X7_has rfl rfl rfl (by decide +kernel) ⟨Nat.le_of_ble_eq_true rfl, Nat.le_of_ble_eq_true rfl⟩) (rw_recv (q0 := 1) hK hW idC_1 rfl rfl) rfl hl.1 rfl (Nat.le_of_ble_eq_true rfl) dX7_isAlive_2 (fun H locs hW hS => ?_)
  refine lv_if_eq (tgt := 21) F.1 F.2.1 dX7_isAlive_5 (by decide) (fun c_4 => ?_) (fun c_4 => ?_)
  · have h := (if_pos c_4).symm.trans h
    exact w_X7_isAlive_21 F hr hlk hK out  _ _ _ _  hW hS (lv_sub hl [] rfl) h
  · have h := (if_neg c_4).symm.trans h
    refine lv_aload_n F.1 F.2.1 dX7_isAlive_8 rfl (lv_at hl 0 rfl) ?_
    refine rw_get (q0 := 1) F hK hW idC_1 rfl rfl in_X7_isAlive_X7 4 (by decide) lk_X7_isAlive_24 rfl dX7_isAlive_9 ?_
    refine lv_iload_n F.1 F.2.1 dX7_isAlive_12 rfl (lv_at hl 1 rfl) ?_
    obtain ⟨b_6, h⟩ := gd_some h
    refine rw_zald (q0 := 33) F hK hW idC_13 (fun _ => rfl) (ix_in b_6) dX7_isAlive_13 ?_
    refine lv_topi (fun v_7 ev_7 => ?_)
    have h := lt_n ev_7 h
    refine lv_if_eq (tgt := 21) F.1 F.2.1 dX7_isAlive_14 (by decide) (fun c_8 => ?_) (fun c_8 => ?_)
    · have h := (if_pos c_8).symm.trans h
      exact w_X7_isAlive_21 F hr hlk hK out  _ _ _ _  hW hS (lv_sub hl [] rfl) h
    · have h := (if_neg c_8).symm.trans h
      refine lv_iconst (v := 1) F.1 F.2.1 dX7_isAlive_17 (by decide) ?_
      refine lv_goto (tgt := 22) F.1 F.2.1 dX7_isAlive_18 (by decide) ?_
      exact w_X7_isAlive_22 F hr hlk hK out  _ _ _ _ _  hW hS (lv_sub hl [] rfl) h
/-! CellCover$Matcher.begin(LCellCover$Cell;I)V -/
abbrev rm_X4_begin : Room := { frames := 0, cells := 0, slots := 0, locals := 0 }
theorem in_X4_begin_X4 : ∀ w ∈ wsX40, w ∈ wsX4_begin := by decide +kernel
theorem lk_X4_begin_18 : Cond.fieldLink RX4 18 "CellCover$Matcher" "cell" "LCellCover$Cell;" ∈ wsX4_begin := by decide +kernel
theorem lk_X4_begin_22 : Cond.fieldLink RX4 22 "CellCover$Matcher" "top" "I" ∈ wsX4_begin := by decide +kernel
theorem lk_X4_begin_26 : Cond.fieldLink RX4 26 "CellCover$Matcher" "turns" "I" ∈ wsX4_begin := by decide +kernel
set_option maxHeartbeats 4000000 in
set_option maxRecDepth 100000 in
theorem c_X4_begin (l : Launch) (G : GT) (A : Nat → Prop) (a0 : Nat) (a1 : Int32) (ha0 : a0 < 20) (S : St) (out : St) (h : f_X4_begin a0 a1 S = some out) : Met l yX4_begin wsX4_begin rm_X4_begin (va_Pc [.ref (G.2.2 5 0), .ref (G.2.2 8 a0), .int a1] (WD shC idsC G A S)) (QV shC idsC G A out) 0 0 A := by
  refine Met.ofW (cc := cX4_begin) (maxL := 3) (ret := none) (by decide) rfl ?_
  intro p e s m args below meth c s₁ B hml hv
  obtain ⟨rfl, hW, hK⟩ := hv
  have F : CallFix p m c cX4_begin 3 s _ wsX4_begin RX4 := ⟨B.exec, B.bytes, hml, findClass_of_methodNamed B.named, atoms_spec (ws := wsX4_begin) B.pre⟩
  have hr := B.returns
  have hlk := B.notSynchronized
  have hS : va_S A s.heap s.heap [] := va_S.rf
  have hl := lv_entry ([.ref (G.2.2 5 0), .ref (G.2.2 8 a0), .int a1]) (n := 3) (Nat.le_of_ble_eq_true rfl)
  rw [lg_entry_eq]
  generalize (lg_sl ([.ref (G.2.2 5 0), .ref (G.2.2 8 a0), .int a1]) ++ List.replicate (3 - (lg_sl ([.ref (G.2.2 5 0), .ref (G.2.2 8 a0), .int a1])).length) Slot.unset).toArray = ls at hl ⊢
  have hl : lv_has ls 3 [(0, .ref (G.2.2 5 0)), (1, .ref (G.2.2 8 a0)), (2, .int a1)] := hl
  unfold f_X4_begin at h
  refine lv_aload_n F.1 F.2.1 dX4_begin_0 rfl (lv_at hl 0 rfl) ?_
  refine lv_aload_n F.1 F.2.1 dX4_begin_1 rfl (lv_at hl 1 rfl) ?_
  refine rw_put ndC (q0 := 5) (x := nI a0) F hK hW hS idC_5 rfl rfl in_X4_begin_X4 tyX4 tyX4_ok nmX4 3 (by decide) lk_X4_begin_18 rfl (ty := .object "CellCover$Cell") (by decide +kernel) rfl rfl (Nat.le_of_ble_eq_true rfl) (sh5_put _ (Nat.lt_trans ha0 (by decide))) dX4_begin_2 (fun H locs S_1 eS_1 hW hS => ?_)
  have h := lt_n eS_1 h
  refine lv_aload_n F.1 F.2.1 dX4_begin_5 rfl (lv_at hl 0 rfl) ?_
  refine lv_iload_n F.1 F.2.1 dX4_begin_6 rfl (lv_at hl 2 rfl) ?_
  refine rw_put ndC (q0 := 5) (x := a1) F hK hW hS idC_5 rfl rfl in_X4_begin_X4 tyX4 tyX4_ok nmX4 4 (by decide) lk_X4_begin_22 rfl (ty := .int) (by decide +kernel) rfl rfl (Nat.le_of_ble_eq_true rfl) rfl dX4_begin_7 (fun H locs S_2 eS_2 hW hS => ?_)
  have h := lt_n eS_2 h
  refine lv_aload_n F.1 F.2.1 dX4_begin_10 rfl (lv_at hl 0 rfl) ?_
  refine lv_iconst (v := 0) F.1 F.2.1 dX4_begin_11 (by decide) ?_
  refine rw_put ndC (q0 := 5) (x := 0) F hK hW hS idC_5 rfl rfl in_X4_begin_X4 tyX4 tyX4_ok nmX4 5 (by decide) lk_X4_begin_26 rfl (ty := .int) (by decide +kernel) rfl rfl (Nat.le_of_ble_eq_true rfl) rfl dX4_begin_12 (fun H locs S_3 eS_3 hW hS => ?_)
  have h := lt_n eS_3 h
  exact rw_retv F hr hlk hK hW hS h dX4_begin_15
/-! CellCover$Matcher.fits(IIZ)Z -/
abbrev rm_X4_fits : Room := { frames := 0, cells := 0, slots := 0, locals := 0 }
theorem in_X4_fits_X4 : ∀ w ∈ wsX40, w ∈ wsX4_fits := by decide +kernel
theorem in_X4_fits_X7 : ∀ w ∈ wsX70, w ∈ wsX4_fits := by decide +kernel
theorem lk_X4_fits_29 : Cond.fieldLink RX4 29 "CellCover$Matcher" "vertices" "LCellCover$Vertices;" ∈ wsX4_fits := by decide +kernel
theorem lk_X4_fits_64 : Cond.fieldLink RX4 64 "CellCover$Vertices" "form" "[I" ∈ wsX4_fits := by decide +kernel
theorem lk_X4_fits_67 : Cond.fieldLink RX4 67 "CellCover$Vertices" "root" "[Z" ∈ wsX4_fits := by decide +kernel
theorem lk_X4_fits_15 : Cond.fieldLink RX4 15 "CellCover$Matcher" "pinAt" "[I" ∈ wsX4_fits := by decide +kernel
set_option maxHeartbeats 4000000 in
set_option maxRecDepth 100000 in
theorem w_X4_fits_81 {p : Program} {l : Launch} {e : Env} {s : State} {m : MethodId} {args : Array Value} {below : List Frame} {meth : Method} {c : Code} {G : GT} {A : Nat → Prop} (F : CallFix p m c cX4_fits 5 s args wsX4_fits RX4) (hr : meth.sig.returnType = (some .boolean)) (hlk : meth.locks = false) (hK : va_K G.1 vwCl (tyl G) s) (out : Int32 × St) : ∀ (S : St) (y0 : Int32) (H : Heap) (locs : List Loc) (ls : Array Slot), Wd shC idsC G A S H → va_S A s.heap H locs → lv_has ls 5 [] → j_X4_fits_81 S y0 = some out → W p l e rm_X4_fits s m args below meth c H locs 0 0 (MQ below (QI shC idsC G A out) args s 0 0 A) (F0 m 81 ls [.int y0]) := by
  intro S y0 H locs ls hW hS hl h
  unfold j_X4_fits_81 at h
  obtain ⟨b_6, h⟩ := gd_some h
  exact rw_retz F hr hlk hK hW hS b_6 h dX4_fits_81
set_option maxHeartbeats 4000000 in
set_option maxRecDepth 100000 in
theorem w_X4_fits_80 {p : Program} {l : Launch} {e : Env} {s : State} {m : MethodId} {args : Array Value} {below : List Frame} {meth : Method} {c : Code} {G : GT} {A : Nat → Prop} (F : CallFix p m c cX4_fits 5 s args wsX4_fits RX4) (hr : meth.sig.returnType = (some .boolean)) (hlk : meth.locks = false) (hK : va_K G.1 vwCl (tyl G) s) (out : Int32 × St) : ∀ (S : St) (H : Heap) (locs : List Loc) (ls : Array Slot), Wd shC idsC G A S H → va_S A s.heap H locs → lv_has ls 5 [] → j_X4_fits_80 S = some out → W p l e rm_X4_fits s m args below meth c H locs 0 0 (MQ below (QI shC idsC G A out) args s 0 0 A) (F0 m 80 ls []) := by
  intro S H locs ls hW hS hl h
  unfold j_X4_fits_80 at h
  refine lv_iconst (v := 0) F.1 F.2.1 dX4_fits_80 (by decide) ?_
  exact w_X4_fits_81 F hr hlk hK out  _ _ _ _ _  hW hS hl h
set_option maxHeartbeats 4000000 in
set_option maxRecDepth 100000 in
theorem w_X4_fits_76 {p : Program} {l : Launch} {e : Env} {s : State} {m : MethodId} {args : Array Value} {below : List Frame} {meth : Method} {c : Code} {G : GT} {A : Nat → Prop} (F : CallFix p m c cX4_fits 5 s args wsX4_fits RX4) (hr : meth.sig.returnType = (some .boolean)) (hlk : meth.locks = false) (hK : va_K G.1 vwCl (tyl G) s) (out : Int32 × St) : ∀ (S : St) (H : Heap) (locs : List Loc) (ls : Array Slot), Wd shC idsC G A S H → va_S A s.heap H locs → lv_has ls 5 [] → j_X4_fits_76 S = some out → W p l e rm_X4_fits s m args below meth c H locs 0 0 (MQ below (QI shC idsC G A out) args s 0 0 A) (F0 m 76 ls []) := by
  intro S H locs ls hW hS hl h
  unfold j_X4_fits_76 at h
  refine lv_iconst (v := 1) F.1 F.2.1 dX4_fits_76 (by decide) ?_
  refine lv_goto (tgt := 81) F.1 F.2.1 dX4_fits_77 (by decide) ?_
  exact w_X4_fits_81 F hr hlk hK out  _ _ _ _ _  hW hS hl h
set_option maxHeartbeats 4000000 in
set_option maxRecDepth 100000 in
theorem w_X4_fits_44 {p : Program} {l : Launch} {e : Env} {s : State} {m : MethodId} {args : Array Value} {below : List Frame} {meth : Method} {c : Code} {G : GT} {A : Nat → Prop} (F : CallFix p m c cX4_fits 5 s args wsX4_fits RX4) (hr : meth.sig.returnType = (some .boolean)) (hlk : meth.locks = false) (hK : va_K G.1 vwCl (tyl G) s) (out : Int32 × St) : ∀ (S : St) (x2 : Int32) (x3 : Int32) (y0 : Int32) (H : Heap) (locs : List Loc) (ls : Array Slot), Wd shC idsC G A S H → va_S A s.heap H locs → lv_has ls 5 [(0, .ref (G.2.2 5 0)), (2, .int x2), (3, .int x3)] → j_X4_fits_44 S x2 x3 y0 = some out → W p l e rm_X4_fits s m args below meth c H locs 0 0 (MQ below (QI shC idsC G A out) args s 0 0 A) (F0 m 44 ls [.int y0]) := by
  intro S x2 x3 y0 H locs ls hW hS hl h
  unfold j_X4_fits_44 at h
  refine lv_istore (lv' := [(4, .int y0), (0, .ref (G.2.2 5 0)), (2, .int x2), (3, .int x3)]) F.1 F.2.1 dX4_fits_44 hl (by decide) rfl (fun ls hl => ?_)
  refine lv_aload_n F.1 F.2.1 dX4_fits_46 rfl (lv_at hl 1 rfl) ?_
  refine rw_get (q0 := 5) F hK hW idC_5 rfl rfl in_X4_fits_X4 0 (by decide) lk_X4_fits_29 rfl dX4_fits_47 ?_
  refine rw_get (q0 := 1) F hK hW idC_1 rfl rfl in_X4_fits_X7 0 (by decide) lk_X4_fits_64 rfl dX4_fits_50 ?_
  refine lv_iload_n F.1 F.2.1 dX4_fits_53 rfl (lv_at hl 2 rfl) ?_
  obtain ⟨b_3, h⟩ := gd_some h
  refine rw_iald (q0 := 29) F hK hW idC_9 (fun _ => rfl) (ix_in b_3) dX4_fits_54 ?_
  refine lv_topi (fun v_4 ev_4 => ?_)
  have h := lt_n ev_4 h
  refine lv_iload F.1 F.2.1 dX4_fits_55 (lv_at hl 0 rfl) ?_
  refine lv_icmp_ne (tgt := 80) F.1 F.2.1 dX4_fits_57 (by decide) (fun c_5 => ?_) (fun c_5 => ?_)
  · have h := (if_neg c_5).symm.trans h
    exact w_X4_fits_80 F hr hlk hK out  _ _ _ _  hW hS (lv_sub hl [] rfl) h
  · have h := (if_pos c_5).symm.trans h
    refine lv_iload_n F.1 F.2.1 dX4_fits_60 rfl (lv_at hl 3 rfl) ?_
    refine lv_if_ne (tgt := 76) F.1 F.2.1 dX4_fits_61 (by decide) (fun c_7 => ?_) (fun c_7 => ?_)
    · have h := (if_neg c_7).symm.trans h
      exact w_X4_fits_76 F hr hlk hK out  _ _ _ _  hW hS (lv_sub hl [] rfl) h
    · have h := (if_pos c_7).symm.trans h
      refine lv_aload_n F.1 F.2.1 dX4_fits_64 rfl (lv_at hl 1 rfl) ?_
      refine rw_get (q0 := 5) F hK hW idC_5 rfl rfl in_X4_fits_X4 0 (by decide) lk_X4_fits_29 rfl dX4_fits_65 ?_
      refine rw_get (q0 := 1) F hK hW idC_1 rfl rfl in_X4_fits_X7 5 (by decide) lk_X4_fits_67 rfl dX4_fits_68 ?_
      refine lv_iload_n F.1 F.2.1 dX4_fits_71 rfl (lv_at hl 2 rfl) ?_
      obtain ⟨b_8, h⟩ := gd_some h
      refine rw_zald (q0 := 34) F hK hW idC_14 (fun _ => rfl) (ix_in b_8) dX4_fits_72 ?_
      refine lv_topi (fun v_9 ev_9 => ?_)
      have h := lt_n ev_9 h
      refine lv_if_ne (tgt := 80) F.1 F.2.1 dX4_fits_73 (by decide) (fun c_10 => ?_) (fun c_10 => ?_)
      · have h := (if_neg c_10).symm.trans h
        exact w_X4_fits_80 F hr hlk hK out  _ _ _ _  hW hS (lv_sub hl [] rfl) h
      · have h := (if_pos c_10).symm.trans h
        exact w_X4_fits_76 F hr hlk hK out  _ _ _ _  hW hS (lv_sub hl [] rfl) h
set_option maxHeartbeats 4000000 in
set_option maxRecDepth 100000 in
theorem w_X4_fits_32 {p : Program} {l : Launch} {e : Env} {s : State} {m : MethodId} {args : Array Value} {below : List Frame} {meth : Method} {c : Code} {G : GT} {A : Nat → Prop} (F : CallFix p m c cX4_fits 5 s args wsX4_fits RX4) (hr : meth.sig.returnType = (some .boolean)) (hlk : meth.locks = false) (hK : va_K G.1 vwCl (tyl G) s) (out : Int32 × St) : ∀ (S : St) (y0 : Int32) (H : Heap) (locs : List Loc) (ls : Array Slot), Wd shC idsC G A S H → va_S A s.heap H locs → lv_has ls 5 [] → j_X4_fits_32 S y0 = some out → W p l e rm_X4_fits s m args below meth c H locs 0 0 (MQ below (QI shC idsC G A out) args s 0 0 A) (F0 m 32 ls [.int y0]) := by
  intro S y0 H locs ls hW hS hl h
  unfold j_X4_fits_32 at h
  obtain ⟨b_14, h⟩ := gd_some h
  exact rw_retz F hr hlk hK hW hS b_14 h dX4_fits_32
set_option maxHeartbeats 4000000 in
set_option maxRecDepth 100000 in
theorem w_X4_fits_27 {p : Program} {l : Launch} {e : Env} {s : State} {m : MethodId} {args : Array Value} {below : List Frame} {meth : Method} {c : Code} {G : GT} {A : Nat → Prop} (F : CallFix p m c cX4_fits 5 s args wsX4_fits RX4) (hr : meth.sig.returnType = (some .boolean)) (hlk : meth.locks = false) (hK : va_K G.1 vwCl (tyl G) s) (out : Int32 × St) : ∀ (S : St) (H : Heap) (locs : List Loc) (ls : Array Slot), Wd shC idsC G A S H → va_S A s.heap H locs → lv_has ls 5 [] → j_X4_fits_27 S = some out → W p l e rm_X4_fits s m args below meth c H locs 0 0 (MQ below (QI shC idsC G A out) args s 0 0 A) (F0 m 27 ls []) := by
  intro S H locs ls hW hS hl h
  unfold j_X4_fits_27 at h
  refine lv_iconst (v := 1) F.1 F.2.1 dX4_fits_27 (by decide) ?_
  refine lv_goto (tgt := 32) F.1 F.2.1 dX4_fits_28 (by decide) ?_
  exact w_X4_fits_32 F hr hlk hK out  _ _ _ _ _  hW hS hl h
set_option maxHeartbeats 4000000 in
set_option maxRecDepth 100000 in
theorem c_X4_fits (l : Launch) (G : GT) (A : Nat → Prop) (a0 : Int32) (a1 : Int32) (a2 : Int32) (S : St) (out : Int32 × St) (h : f_X4_fits a0 a1 a2 S = some out) : Met l yX4_fits wsX4_fits rm_X4_fits (va_Pc [.ref (G.2.2 5 0), .int a0, .int a1, .int a2] (WD shC idsC G A S)) (QI shC idsC G A out) 0 0 A := by
  refine Met.ofW (cc := cX4_fits) (maxL := 5) (ret := (some .boolean)) (by decide) rfl ?_
  intro p e s m args below meth c s₁ B hml hv
  obtain ⟨rfl, hW, hK⟩ := hv
  have F : CallFix p m c cX4_fits 5 s _ wsX4_fits RX4 := ⟨B.exec, B.bytes, hml, findClass_of_methodNamed B.named, atoms_spec (ws := wsX4_fits) B.pre⟩
  have hr := B.returns
  have hlk := B.notSynchronized
  have hS : va_S A s.heap s.heap [] := va_S.rf
  have hl := lv_entry ([.ref (G.2.2 5 0), .int a0, .int a1, .int a2]) (n := 5) (Nat.le_of_ble_eq_true rfl)
  rw [lg_entry_eq]
  generalize (lg_sl ([.ref (G.2.2 5 0), .int a0, .int a1, .int a2]) ++ List.replicate (5 - (lg_sl ([.ref (G.2.2 5 0), .int a0, .int a1, .int a2])).length) Slot.unset).toArray = ls at hl ⊢
  have hl : lv_has ls 5 [(0, .ref (G.2.2 5 0)), (1, .int a0), (2, .int a1), (3, .int a2)] := hl
  unfold f_X4_fits at h
  refine lv_iload_n F.1 F.2.1 dX4_fits_0 rfl (lv_at hl 1 rfl) ?_
  refine lv_bipush (v := 6) F.1 F.2.1 dX4_fits_1 (by decide) ?_
  refine lv_icmp_ge (tgt := 33) F.1 F.2.1 dX4_fits_3 (by decide) (fun c_1 => ?_) (fun c_1 => ?_)
  · have h := (if_pos c_1).symm.trans h
    refine lv_iload_n F.1 F.2.1 dX4_fits_33 rfl (lv_at hl 1 rfl) ?_
    refine lv_bipush (v := 7) F.1 F.2.1 dX4_fits_34 (by decide) ?_
    refine lv_icmp_ne (tgt := 43) F.1 F.2.1 dX4_fits_36 (by decide) (fun c_2 => ?_) (fun c_2 => ?_)
    · have h := (if_neg c_2).symm.trans h
      refine lv_iconst (v := 1) F.1 F.2.1 dX4_fits_43 (by decide) ?_
      exact w_X4_fits_44 F hr hlk hK out  _ _ _ _ _ _ _  hW hS (lv_sub hl [0, 2, 3] rfl) h
    · have h := (if_pos c_2).symm.trans h
      refine lv_iconst (v := 2) F.1 F.2.1 dX4_fits_39 (by decide) ?_
      refine lv_goto (tgt := 44) F.1 F.2.1 dX4_fits_40 (by decide) ?_
      exact w_X4_fits_44 F hr hlk hK out  _ _ _ _ _ _ _  hW hS (lv_sub hl [0, 2, 3] rfl) h
  · have h := (if_neg c_1).symm.trans h
    refine lv_aload_n F.1 F.2.1 dX4_fits_6 rfl (lv_at hl 0 rfl) ?_
    refine rw_get (q0 := 5) F hK hW idC_5 rfl rfl in_X4_fits_X4 2 (by decide) lk_X4_fits_15 rfl dX4_fits_7 ?_
    refine lv_iload_n F.1 F.2.1 dX4_fits_10 rfl (lv_at hl 1 rfl) ?_
    obtain ⟨b_11, h⟩ := gd_some h
    refine rw_iald (q0 := 46) F hK hW idC_26 (fun _ => rfl) (ix_in b_11) dX4_fits_11 ?_
    refine lv_topi (fun v_12 ev_12 => ?_)
    have h := lt_n ev_12 h
    refine lv_bipush (v := -4) F.1 F.2.1 dX4_fits_12 (by decide) ?_
    refine lv_icmp_eq (tgt := 27) F.1 F.2.1 dX4_fits_14 (by decide) (fun c_13 => ?_) (fun c_13 => ?_)
    · have h := (if_pos c_13).symm.trans h
      exact w_X4_fits_27 F hr hlk hK out  _ _ _ _  hW hS (lv_sub hl [] rfl) h
    · have h := (if_neg c_13).symm.trans h
      refine lv_aload_n F.1 F.2.1 dX4_fits_17 rfl (lv_at hl 0 rfl) ?_
      refine rw_get (q0 := 5) F hK hW idC_5 rfl rfl in_X4_fits_X4 2 (by decide) lk_X4_fits_15 rfl dX4_fits_18 ?_
      refine lv_iload_n F.1 F.2.1 dX4_fits_21 rfl (lv_at hl 1 rfl) ?_
      obtain ⟨b_15, h⟩ := gd_some h
      refine rw_iald (q0 := 46) F hK hW idC_26 (fun _ => rfl) (ix_in b_15) dX4_fits_22 ?_
      refine lv_topi (fun v_16 ev_16 => ?_)
      have h := lt_n ev_16 h
      refine lv_iload_n F.1 F.2.1 dX4_fits_23 rfl (lv_at hl 2 rfl) ?_
      refine lv_icmp_ne (tgt := 31) F.1 F.2.1 dX4_fits_24 (by decide) (fun c_17 => ?_) (fun c_17 => ?_)
      · have h := (if_neg c_17).symm.trans h
        refine lv_iconst (v := 0) F.1 F.2.1 dX4_fits_31 (by decide) ?_
        exact w_X4_fits_32 F hr hlk hK out  _ _ _ _ _  hW hS (lv_sub hl [] rfl) h
      · have h := (if_pos c_17).symm.trans h
        exact w_X4_fits_27 F hr hlk hK out  _ _ _ _  hW hS (lv_sub hl [] rfl) h
