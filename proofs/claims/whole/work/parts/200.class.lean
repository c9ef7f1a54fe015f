/-! CellCover$Vertices.add(III)I -/
abbrev rm_X7_add : Room := { frames := 0, cells := 0, slots := 0, locals := 0 }
theorem in_X7_add_X7 : ∀ w ∈ wsX70, w ∈ wsX7_add := by decide +kernel
theorem lk_X7_add_31 : Cond.fieldLink RX7 31 "CellCover$Vertices" "many" "I" ∈ wsX7_add := by decide +kernel
theorem lk_X7_add_9 : Cond.fieldLink RX7 9 "CellCover$Vertices" "form" "[I" ∈ wsX7_add := by decide +kernel
theorem lk_X7_add_15 : Cond.fieldLink RX7 15 "CellCover$Vertices" "first" "[I" ∈ wsX7_add := by decide +kernel
theorem lk_X7_add_18 : Cond.fieldLink RX7 18 "CellCover$Vertices" "second" "[I" ∈ wsX7_add := by decide +kernel
set_option maxHeartbeats 4000000 in
set_option maxRecDepth 100000 in
theorem c_X7_add (l : Launch) (G : GT) (A : Nat → Prop) (a0 : Int32) (a1 : Int32) (a2 : Int32) (S : St) (out : Int32 × St) (h : f_X7_add a0 a1 a2 S = some out) : Met l yX7_add wsX7_add rm_X7_add (va_Pc [.ref (G.2.2 1 0), .int a0, .int a1, .int a2] (WD shC idsC G A S)) (QI shC idsC G A out) 0 0 A := by
  refine Met.ofW (cc := cX7_add) (maxL := 5) (ret := (some .int)) (by decide) rfl ?_
  intro p e s m args below meth c s₁ B hml hv
  obtain ⟨rfl, hW, hK⟩ := hv
  have F : CallFix p m c cX7_add 5 s _ wsX7_add RX7 := ⟨B.exec, B.bytes, hml, findClass_of_methodNamed B.named, atoms_spec (ws := wsX7_add) B.pre⟩
  have hr := B.returns
  have hlk := B.notSynchronized
  have hS : va_S A s.heap s.heap [] := va_S.rf
  have hl := lv_entry ([.ref (G.2.2 1 0), .int a0, .int a1, .int a2]) (n := 5) (Nat.le_of_ble_eq_true rfl)
  rw [lg_entry_eq]
  generalize (lg_sl ([.ref (G.2.2 1 0), .int a0, .int a1, .int a2]) ++ List.replicate (5 - (lg_sl ([.ref (G.2.2 1 0), .int a0, .int a1, .int a2])).length) Slot.unset).toArray = ls at hl ⊢
  have hl : lv_has ls 5 [(0, .ref (G.2.2 1 0)), (1, .int a0), (2, .int a1), (3, .int a2)] := hl
  unfold f_X7_add at h
  refine lv_aload_n F.1 F.2.1 dX7_add_0 rfl (lv_at hl 0 rfl) ?_
  refine rw_get (q0 := 1) F hK hW idC_1 rfl rfl in_X7_add_X7 6 (by decide) lk_X7_add_31 rfl dX7_add_1 ?_
  refine lv_topi (fun v_1 ev_1 => ?_)
  have h := lt_n ev_1 h
  refine lv_istore (lv' := [(4, .int v_1), (0, .ref (G.2.2 1 0)), (1, .int a0), (2, .int a1), (3, .int a2)]) F.1 F.2.1 dX7_add_4 hl (by decide) rfl (fun ls hl => ?_)
  refine lv_iload F.1 F.2.1 dX7_add_6 (lv_at hl 0 rfl) ?_
  refine lv_sipush (v := 160) F.1 F.2.1 dX7_add_8 (by decide) ?_
  refine lv_icmp_lt (tgt := 19) F.1 F.2.1 dX7_add_11 (by decide) (fun c_2 => ?_) (fun c_2 => ?_)
  · have h := (if_pos c_2).symm.trans h
    refine lv_aload_n F.1 F.2.1 dX7_add_19 rfl (lv_at hl 1 rfl) ?_
    refine rw_get (q0 := 1) F hK hW idC_1 rfl rfl in_X7_add_X7 0 (by decide) lk_X7_add_9 rfl dX7_add_20 ?_
    refine lv_iload F.1 F.2.1 dX7_add_23 (lv_at hl 0 rfl) ?_
    refine lv_iload_n F.1 F.2.1 dX7_add_25 rfl (lv_at hl 2 rfl) ?_
    obtain ⟨b_3, h⟩ := gd_some h
    refine rw_iast ndC (q0 := 29) F hK hW hS idC_9 (fun _ => rfl) (ix_in b_3) dX7_add_26 (fun H locs S_4 eS_4 hW hS => ?_)
    have h := lt_n eS_4 h
    refine lv_aload_n F.1 F.2.1 dX7_add_27 rfl (lv_at hl 1 rfl) ?_
    refine rw_get (q0 := 1) F hK hW idC_1 rfl rfl in_X7_add_X7 1 (by decide) lk_X7_add_15 rfl dX7_add_28 ?_
    refine lv_iload F.1 F.2.1 dX7_add_31 (lv_at hl 0 rfl) ?_
    refine lv_iload_n F.1 F.2.1 dX7_add_33 rfl (lv_at hl 3 rfl) ?_
    obtain ⟨b_5, h⟩ := gd_some h
    refine rw_iast ndC (q0 := 30) F hK hW hS idC_10 (fun _ => rfl) (ix_in b_5) dX7_add_34 (fun H locs S_6 eS_6 hW hS => ?_)
    have h := lt_n eS_6 h
    refine lv_aload_n F.1 F.2.1 dX7_add_35 rfl (lv_at hl 1 rfl) ?_
    refine rw_get (q0 := 1) F hK hW idC_1 rfl rfl in_X7_add_X7 2 (by decide) lk_X7_add_18 rfl dX7_add_36 ?_
    refine lv_iload F.1 F.2.1 dX7_add_39 (lv_at hl 0 rfl) ?_
    refine lv_iload_n F.1 F.2.1 dX7_add_41 rfl (lv_at hl 4 rfl) ?_
    obtain ⟨b_7, h⟩ := gd_some h
    refine rw_iast ndC (q0 := 31) F hK hW hS idC_11 (fun _ => rfl) (ix_in b_7) dX7_add_42 (fun H locs S_8 eS_8 hW hS => ?_)
    have h := lt_n eS_8 h
    refine lv_aload_n F.1 F.2.1 dX7_add_43 rfl (lv_at hl 1 rfl) ?_
    refine lv_dup F.1 F.2.1 dX7_add_44 rfl ?_
    refine rw_get (q0 := 1) F hK hW idC_1 rfl rfl in_X7_add_X7 6 (by decide) lk_X7_add_31 rfl dX7_add_45 ?_
    refine lv_iconst (v := 1) F.1 F.2.1 dX7_add_48 (by decide) ?_
    refine lv_iadd F.1 F.2.1 dX7_add_49 ?_
    refine rw_put ndC (q0 := 1) (x := (S_8 1 0 6) + 1) F hK hW hS idC_1 rfl rfl in_X7_add_X7 tyX7 tyX7_ok nmX7 6 (by decide) lk_X7_add_31 rfl (ty := .int) (by decide +kernel) rfl rfl (Nat.le_of_ble_eq_true rfl) rfl dX7_add_50 (fun H locs S_9 eS_9 hW hS => ?_)
    have h := lt_n eS_9 h
    refine lv_iload F.1 F.2.1 dX7_add_53 (lv_at hl 0 rfl) ?_
    exact rw_ret F hr hlk hK hW hS h dX7_add_55
  · have h := (if_neg c_2).symm.trans h
    refine lv_iload F.1 F.2.1 dX7_add_14 (lv_at hl 0 rfl) ?_
    refine lv_iconst (v := 1) F.1 F.2.1 dX7_add_16 (by decide) ?_
    refine lv_isub F.1 F.2.1 dX7_add_17 ?_
    exact rw_ret F hr hlk hK hW hS h dX7_add_18
/-! CellCover$Net.addNode(III)I -/
abbrev rm_X5_addNode : Room := { frames := 0, cells := 0, slots := 0, locals := 0 }
theorem in_X5_addNode_X5 : ∀ w ∈ wsX50, w ∈ wsX5_addNode := by decide +kernel
theorem lk_X5_addNode_36 : Cond.fieldLink RX5 36 "CellCover$Net" "nodes" "I" ∈ wsX5_addNode := by decide +kernel
theorem lk_X5_addNode_9 : Cond.fieldLink RX5 9 "CellCover$Net" "kind" "[I" ∈ wsX5_addNode := by decide +kernel
theorem lk_X5_addNode_30 : Cond.fieldLink RX5 30 "CellCover$Net" "verticesAhead" "[I" ∈ wsX5_addNode := by decide +kernel
theorem lk_X5_addNode_33 : Cond.fieldLink RX5 33 "CellCover$Net" "vertexAt" "[I" ∈ wsX5_addNode := by decide +kernel
set_option maxHeartbeats 4000000 in
set_option maxRecDepth 100000 in
theorem c_X5_addNode (l : Launch) (G : GT) (A : Nat → Prop) (a0 : Int32) (a1 : Int32) (a2 : Int32) (S : St) (out : Int32 × St) (h : f_X5_addNode a0 a1 a2 S = some out) : Met l yX5_addNode wsX5_addNode rm_X5_addNode (va_Pc [.ref (G.2.2 2 0), .int a0, .int a1, .int a2] (WD shC idsC G A S)) (QI shC idsC G A out) 0 0 A := by
  refine Met.ofW (cc := cX5_addNode) (maxL := 5) (ret := (some .int)) (by decide) rfl ?_
  intro p e s m args below meth c s₁ B hml hv
  obtain ⟨rfl, hW, hK⟩ := hv
  have F : CallFix p m c cX5_addNode 5 s _ wsX5_addNode RX5 := ⟨B.exec, B.bytes, hml, findClass_of_methodNamed B.named, atoms_spec (ws := wsX5_addNode) B.pre⟩
  have hr := B.returns
  have hlk := B.notSynchronized
  have hS : va_S A s.heap s.heap [] := va_S.rf
  have hl := lv_entry ([.ref (G.2.2 2 0), .int a0, .int a1, .int a2]) (n := 5) (Nat.le_of_ble_eq_true rfl)
  rw [lg_entry_eq]
  generalize (lg_sl ([.ref (G.2.2 2 0), .int a0, .int a1, .int a2]) ++ List.replicate (5 - (lg_sl ([.ref (G.2.2 2 0), .int a0, .int a1, .int a2])).length) Slot.unset).toArray = ls at hl ⊢
  have hl : lv_has ls 5 [(0, .ref (G.2.2 2 0)), (1, .int a0), (2, .int a1), (3, .int a2)] := hl
  unfold f_X5_addNode at h
  refine lv_aload_n F.1 F.2.1 dX5_addNode_0 rfl (lv_at hl 0 rfl) ?_
  refine rw_get (q0 := 2) F hK hW idC_2 rfl rfl in_X5_addNode_X5 8 (by decide) lk_X5_addNode_36 rfl dX5_addNode_1 ?_
  refine lv_topi (fun v_1 ev_1 => ?_)
  have h := lt_n ev_1 h
  refine lv_istore (lv' := [(4, .int v_1), (0, .ref (G.2.2 2 0)), (1, .int a0), (2, .int a1), (3, .int a2)]) F.1 F.2.1 dX5_addNode_4 hl (by decide) rfl (fun ls hl => ?_)
  refine lv_aload_n F.1 F.2.1 dX5_addNode_6 rfl (lv_at hl 1 rfl) ?_
  refine rw_get (q0 := 2) F hK hW idC_2 rfl rfl in_X5_addNode_X5 0 (by decide) lk_X5_addNode_9 rfl dX5_addNode_7 ?_
  refine lv_iload F.1 F.2.1 dX5_addNode_10 (lv_at hl 0 rfl) ?_
  refine lv_iload_n F.1 F.2.1 dX5_addNode_12 rfl (lv_at hl 2 rfl) ?_
  obtain ⟨b_2, h⟩ := gd_some h
  refine rw_iast ndC (q0 := 35) F hK hW hS idC_15 (fun _ => rfl) (ix_in b_2) dX5_addNode_13 (fun H locs S_3 eS_3 hW hS => ?_)
  have h := lt_n eS_3 h
  refine lv_aload_n F.1 F.2.1 dX5_addNode_14 rfl (lv_at hl 1 rfl) ?_
  refine rw_get (q0 := 2) F hK hW idC_2 rfl rfl in_X5_addNode_X5 6 (by decide) lk_X5_addNode_30 rfl dX5_addNode_15 ?_
  refine lv_iload F.1 F.2.1 dX5_addNode_18 (lv_at hl 0 rfl) ?_
  refine lv_iload_n F.1 F.2.1 dX5_addNode_20 rfl (lv_at hl 3 rfl) ?_
  obtain ⟨b_4, h⟩ := gd_some h
  refine rw_iast ndC (q0 := 41) F hK hW hS idC_21 (fun _ => rfl) (ix_in b_4) dX5_addNode_21 (fun H locs S_5 eS_5 hW hS => ?_)
  have h := lt_n eS_5 h
  refine lv_aload_n F.1 F.2.1 dX5_addNode_22 rfl (lv_at hl 1 rfl) ?_
  refine rw_get (q0 := 2) F hK hW idC_2 rfl rfl in_X5_addNode_X5 7 (by decide) lk_X5_addNode_33 rfl dX5_addNode_23 ?_
  refine lv_iload F.1 F.2.1 dX5_addNode_26 (lv_at hl 0 rfl) ?_
  refine lv_iload_n F.1 F.2.1 dX5_addNode_28 rfl (lv_at hl 4 rfl) ?_
  obtain ⟨b_6, h⟩ := gd_some h
  refine rw_iast ndC (q0 := 42) F hK hW hS idC_22 (fun _ => rfl) (ix_in b_6) dX5_addNode_29 (fun H locs S_7 eS_7 hW hS => ?_)
  have h := lt_n eS_7 h
  refine lv_aload_n F.1 F.2.1 dX5_addNode_30 rfl (lv_at hl 1 rfl) ?_
  refine lv_dup F.1 F.2.1 dX5_addNode_31 rfl ?_
  refine rw_get (q0 := 2) F hK hW idC_2 rfl rfl in_X5_addNode_X5 8 (by decide) lk_X5_addNode_36 rfl dX5_addNode_32 ?_
  refine lv_iconst (v := 1) F.1 F.2.1 dX5_addNode_35 (by decide) ?_
  refine lv_iadd F.1 F.2.1 dX5_addNode_36 ?_
  refine rw_put ndC (q0 := 2) (x := (S_7 2 0 8) + 1) F hK hW hS idC_2 rfl rfl in_X5_addNode_X5 tyX5 tyX5_ok nmX5 8 (by decide) lk_X5_addNode_36 rfl (ty := .int) (by decide +kernel) rfl rfl (Nat.le_of_ble_eq_true rfl) rfl dX5_addNode_37 (fun H locs S_8 eS_8 hW hS => ?_)
  have h := lt_n eS_8 h
  refine lv_iload F.1 F.2.1 dX5_addNode_40 (lv_at hl 0 rfl) ?_
  exact rw_ret F hr hlk hK hW hS h dX5_addNode_42
/-! CellCover$Net.addInput(II)I -/
abbrev rm_X5_addInput : Room := { frames := 1, cells := 0, slots := 0, locals := 24 }
theorem in_X5_addInput_X5 : ∀ w ∈ wsX50, w ∈ wsX5_addInput := by decide +kernel
theorem lk_X5_addInput_40 : Cond.fieldLink RX5 40 "CellCover$Net" "inputs" "I" ∈ wsX5_addInput := by decide +kernel
set_option maxHeartbeats 4000000 in
set_option maxRecDepth 100000 in
theorem c_X5_addInput (l : Launch) (G : GT) (A : Nat → Prop) (a0 : Int32) (a1 : Int32) (S : St) (out : Int32 × St) (h : f_X5_addInput a0 a1 S = some out) : Met l yX5_addInput wsX5_addInput rm_X5_addInput (va_Pc [.ref (G.2.2 2 0), .int a0, .int a1] (WD shC idsC G A S)) (QI shC idsC G A out) 0 0 A := by
  refine Met.ofW (cc := cX5_addInput) (maxL := 3) (ret := (some .int)) (by decide) rfl ?_
  intro p e s m args below meth c s₁ B hml hv
  obtain ⟨rfl, hW, hK⟩ := hv
  have F : CallFix p m c cX5_addInput 3 s _ wsX5_addInput RX5 := ⟨B.exec, B.bytes, hml, findClass_of_methodNamed B.named, atoms_spec (ws := wsX5_addInput) B.pre⟩
  have hr := B.returns
  have hlk := B.notSynchronized
  have hS : va_S A s.heap s.heap [] := va_S.rf
  have hl := lv_entry ([.ref (G.2.2 2 0), .int a0, .int a1]) (n := 3) (Nat.le_of_ble_eq_true rfl)
  rw [lg_entry_eq]
  generalize (lg_sl ([.ref (G.2.2 2 0), .int a0, .int a1]) ++ List.replicate (3 - (lg_sl ([.ref (G.2.2 2 0), .int a0, .int a1])).length) Slot.unset).toArray = ls at hl ⊢
  have hl : lv_has ls 3 [(0, .ref (G.2.2 2 0)), (1, .int a0), (2, .int a1)] := hl
  unfold f_X5_addInput at h
  refine lv_aload_n F.1 F.2.1 dX5_addInput_0 rfl (lv_at hl 0 rfl) ?_
  refine lv_dup F.1 F.2.1 dX5_addInput_1 rfl ?_
  refine rw_get (q0 := 2) F hK hW idC_2 rfl rfl in_X5_addInput_X5 9 (by decide) lk_X5_addInput_40 rfl dX5_addInput_2 ?_
  refine lv_iconst (v := 1) F.1 F.2.1 dX5_addInput_5 (by decide) ?_
  refine lv_iadd F.1 F.2.1 dX5_addInput_6 ?_
  refine rw_put ndC (q0 := 2) (x := (S 2 0 9) + 1) F hK hW hS idC_2 rfl rfl in_X5_addInput_X5 tyX5 tyX5_ok nmX5 9 (by decide) lk_X5_addInput_40 rfl (ty := .int) (by decide +kernel) rfl rfl (Nat.le_of_ble_eq_true rfl) rfl dX5_addInput_7 (fun H locs S_1 eS_1 hW hS => ?_)
  have h := lt_n eS_1 h
  refine lv_aload_n F.1 F.2.1 dX5_addInput_10 rfl (lv_at hl 0 rfl) ?_
  refine lv_bipush (v := 7) F.1 F.2.1 dX5_addInput_11 (by decide) ?_
  refine lv_iload_n F.1 F.2.1 dX5_addInput_13 rfl (lv_at hl 1 rfl) ?_
  refine lv_iload_n F.1 F.2.1 dX5_addInput_14 rfl (lv_at hl 2 rfl) ?_
  obtain ⟨r_3, S_4, hq_2, h⟩ := bi_some h
  refine rw_vi F hK hW hS [.int 7, .int a0, .int a1] (rest := []) (c_X5_addNode l G A 7 a0 a1 S_1 (r_3, S_4) hq_2) (cwV 3 F.2.2.2.2 gX5_addInput_X5_addNode rfl rfl rfl (by decide +kernel) ⟨Nat.le_of_ble_eq_true rfl, Nat.le_of_ble_eq_true rfl⟩) (rw_recv (q0 := 2) hK hW idC_2 rfl rfl) rfl hl.1 rfl (Nat.le_of_ble_eq_true rfl) dX5_addInput_15 (fun H locs hW hS => ?_)
  exact rw_ret F hr hlk hK hW hS h dX5_addInput_18
/-! CellCover$Net.outputVertex(I)I -/
abbrev rm_X5_outputVertex : Room := { frames := 0, cells := 0, slots := 0, locals := 0 }
theorem in_X5_outputVertex_X5 : ∀ w ∈ wsX50, w ∈ wsX5_outputVertex := by decide +kernel
theorem lk_X5_outputVertex_33 : Cond.fieldLink RX5 33 "CellCover$Net" "vertexAt" "[I" ∈ wsX5_outputVertex := by decide +kernel
theorem lk_X5_outputVertex_27 : Cond.fieldLink RX5 27 "CellCover$Net" "outputNode" "[I" ∈ wsX5_outputVertex := by decide +kernel
set_option maxHeartbeats 4000000 in
set_option maxRecDepth 100000 in
theorem c_X5_outputVertex (l : Launch) (G : GT) (A : Nat → Prop) (a0 : Int32) (S : St) (out : Int32 × St) (h : f_X5_outputVertex a0 S = some out) : Met l yX5_outputVertex wsX5_outputVertex rm_X5_outputVertex (va_Pc [.ref (G.2.2 2 0), .int a0] (WD shC idsC G A S)) (QI shC idsC G A out) 0 0 A := by
  refine Met.ofW (cc := cX5_outputVertex) (maxL := 2) (ret := (some .int)) (by decide) rfl ?_
  intro p e s m args below meth c s₁ B hml hv
  obtain ⟨rfl, hW, hK⟩ := hv
  have F : CallFix p m c cX5_outputVertex 2 s _ wsX5_outputVertex RX5 := ⟨B.exec, B.bytes, hml, findClass_of_methodNamed B.named, atoms_spec (ws := wsX5_outputVertex) B.pre⟩
  have hr := B.returns
  have hlk := B.notSynchronized
  have hS : va_S A s.heap s.heap [] := va_S.rf
  have hl := lv_entry ([.ref (G.2.2 2 0), .int a0]) (n := 2) (Nat.le_of_ble_eq_true rfl)
  rw [lg_entry_eq]
  generalize (lg_sl ([.ref (G.2.2 2 0), .int a0]) ++ List.replicate (2 - (lg_sl ([.ref (G.2.2 2 0), .int a0])).length) Slot.unset).toArray = ls at hl ⊢
  have hl : lv_has ls 2 [(0, .ref (G.2.2 2 0)), (1, .int a0)] := hl
  unfold f_X5_outputVertex at h
  refine lv_aload_n F.1 F.2.1 dX5_outputVertex_0 rfl (lv_at hl 0 rfl) ?_
  refine rw_get (q0 := 2) F hK hW idC_2 rfl rfl in_X5_outputVertex_X5 7 (by decide) lk_X5_outputVertex_33 rfl dX5_outputVertex_1 ?_
  refine lv_aload_n F.1 F.2.1 dX5_outputVertex_4 rfl (lv_at hl 0 rfl) ?_
  refine rw_get (q0 := 2) F hK hW idC_2 rfl rfl in_X5_outputVertex_X5 5 (by decide) lk_X5_outputVertex_27 rfl dX5_outputVertex_5 ?_
  refine lv_iload_n F.1 F.2.1 dX5_outputVertex_8 rfl (lv_at hl 1 rfl) ?_
  obtain ⟨b_1, h⟩ := gd_some h
  refine rw_iald (q0 := 40) F hK hW idC_20 (fun _ => rfl) (ix_in b_1) dX5_outputVertex_9 ?_
  refine lv_topi (fun v_2 ev_2 => ?_)
  have h := lt_n ev_2 h
  obtain ⟨b_3, h⟩ := gd_some h
  refine rw_iald (q0 := 42) F hK hW idC_22 (fun _ => rfl) (ix_in b_3) dX5_outputVertex_10 ?_
  refine lv_topi (fun v_4 ev_4 => ?_)
  have h := lt_n ev_4 h
  exact rw_ret F hr hlk hK hW hS h dX5_outputVertex_11
/-! CellCover$Vertices.markOne(I)V -/
abbrev rm_X7_markOne : Room := { frames := 0, cells := 0, slots := 0, locals := 0 }
theorem in_X7_markOne_X7 : ∀ w ∈ wsX70, w ∈ wsX7_markOne := by decide +kernel
theorem lk_X7_markOne_24 : Cond.fieldLink RX7 24 "CellCover$Vertices" "lives" "[Z" ∈ wsX7_markOne := by decide +kernel
theorem lk_X7_markOne_21 : Cond.fieldLink RX7 21 "CellCover$Vertices" "uses" "[I" ∈ wsX7_markOne := by decide +kernel
theorem lk_X7_markOne_28 : Cond.fieldLink RX7 28 "CellCover$Vertices" "root" "[Z" ∈ wsX7_markOne := by decide +kernel
theorem lk_X7_markOne_35 : Cond.fieldLink RX7 35 "CellCover$Vertices" "living" "I" ∈ wsX7_markOne := by decide +kernel
theorem lk_X7_markOne_9 : Cond.fieldLink RX7 9 "CellCover$Vertices" "form" "[I" ∈ wsX7_markOne := by decide +kernel
theorem lk_X7_markOne_18 : Cond.fieldLink RX7 18 "CellCover$Vertices" "second" "[I" ∈ wsX7_markOne := by decide +kernel
theorem lk_X7_markOne_15 : Cond.fieldLink RX7 15 "CellCover$Vertices" "first" "[I" ∈ wsX7_markOne := by decide +kernel
theorem lk_X7_markOne_38 : Cond.fieldLink RX7 38 "CellCover$Vertices" "roots" "I" ∈ wsX7_markOne := by decide +kernel
set_option maxHeartbeats 4000000 in
set_option maxRecDepth 100000 in
theorem w_X7_markOne_156 {p : Program} {l : Launch} {e : Env} {s : State} {m : MethodId} {args : Array Value} {below : List Frame} {meth : Method} {c : Code} {G : GT} {A : Nat → Prop} (F : CallFix p m c cX7_markOne 2 s args wsX7_markOne RX7) (hr : meth.sig.returnType = none) (hlk : meth.locks = false) (hK : va_K G.1 vwCl (tyl G) s) (out : St) : ∀ (S : St) (H : Heap) (locs : List Loc) (ls : Array Slot), Wd shC idsC G A S H → va_S A s.heap H locs → lv_has ls 2 [] → j_X7_markOne_156 S = some out → W p l e rm_X7_markOne s m args below meth c H locs 0 0 (MQ below (QV shC idsC G A out) args s 0 0 A) (F0 m 156 ls []) := by
  intro S H locs ls hW hS hl h
  unfold j_X7_markOne_156 at h
  exact rw_retv F hr hlk hK hW hS h dX7_markOne_156
set_option maxHeartbeats 4000000 in
set_option maxRecDepth 100000 in
theorem w_X7_markOne_131 {p : Program} {l : Launch} {e : Env} {s : State} {m : MethodId} {args : Array Value} {below : List Frame} {meth : Method} {c : Code} {G : GT} {A : Nat → Prop} (F : CallFix p m c cX7_markOne 2 s args wsX7_markOne RX7) (hr : meth.sig.returnType = none) (hlk : meth.locks = false) (hK : va_K G.1 vwCl (tyl G) s) (out : St) : ∀ (S : St) (x1 : Int32) (H : Heap) (locs : List Loc) (ls : Array Slot), Wd shC idsC G A S H → va_S A s.heap H locs → lv_has ls 2 [(0, .ref (G.2.2 1 0)), (1, .int x1)] → j_X7_markOne_131 S x1 = some out → W p l e rm_X7_markOne s m args below meth c H locs 0 0 (MQ below (QV shC idsC G A out) args s 0 0 A) (F0 m 131 ls []) := by
  intro S x1 H locs ls hW hS hl h
  unfold j_X7_markOne_131 at h
  refine lv_aload_n F.1 F.2.1 dX7_markOne_131 rfl (lv_at hl 0 rfl) ?_
  refine rw_get (q0 := 1) F hK hW idC_1 rfl rfl in_X7_markOne_X7 0 (by decide) lk_X7_markOne_9 rfl dX7_markOne_132 ?_
  refine lv_iload_n F.1 F.2.1 dX7_markOne_135 rfl (lv_at hl 1 rfl) ?_
  obtain ⟨b_21, h⟩ := gd_some h
  refine rw_iald (q0 := 29) F hK hW idC_9 (fun _ => rfl) (ix_in b_21) dX7_markOne_136 ?_
  refine lv_topi (fun v_22 ev_22 => ?_)
  have h := lt_n ev_22 h
  refine lv_iconst (v := 2) F.1 F.2.1 dX7_markOne_137 (by decide) ?_
  refine lv_icmp_ne (tgt := 156) F.1 F.2.1 dX7_markOne_138 (by decide) (fun c_23 => ?_) (fun c_23 => ?_)
  · have h := (if_neg c_23).symm.trans h
    exact w_X7_markOne_156 F hr hlk hK out  _ _ _ _  hW hS (lv_sub hl [] rfl) h
  · have h := (if_pos c_23).symm.trans h
    refine lv_aload_n F.1 F.2.1 dX7_markOne_141 rfl (lv_at hl 0 rfl) ?_
    refine rw_get (q0 := 1) F hK hW idC_1 rfl rfl in_X7_markOne_X7 3 (by decide) lk_X7_markOne_21 rfl dX7_markOne_142 ?_
    refine lv_aload_n F.1 F.2.1 dX7_markOne_145 rfl (lv_at hl 0 rfl) ?_
    refine rw_get (q0 := 1) F hK hW idC_1 rfl rfl in_X7_markOne_X7 2 (by decide) lk_X7_markOne_18 rfl dX7_markOne_146 ?_
    refine lv_iload_n F.1 F.2.1 dX7_markOne_149 rfl (lv_at hl 1 rfl) ?_
    obtain ⟨b_24, h⟩ := gd_some h
    refine rw_iald (q0 := 31) F hK hW idC_11 (fun _ => rfl) (ix_in b_24) dX7_markOne_150 ?_
    refine lv_topi (fun v_25 ev_25 => ?_)
    have h := lt_n ev_25 h
    refine lv_dup2_11 F.1 F.2.1 dX7_markOne_151 rfl rfl ?_
    obtain ⟨b_26, h⟩ := gd_some h
    refine rw_iald (q0 := 32) F hK hW idC_12 (fun _ => rfl) (ix_in b_26) dX7_markOne_152 ?_
    refine lv_topi (fun v_27 ev_27 => ?_)
    have h := lt_n ev_27 h
    refine lv_iconst (v := 1) F.1 F.2.1 dX7_markOne_153 (by decide) ?_
    refine lv_iadd F.1 F.2.1 dX7_markOne_154 ?_
    obtain ⟨b_28, h⟩ := gd_some h
    refine rw_iast ndC (q0 := 32) F hK hW hS idC_12 (fun _ => rfl) (ix_in b_28) dX7_markOne_155 (fun H locs S_29 eS_29 hW hS => ?_)
    have h := lt_n eS_29 h
    exact w_X7_markOne_156 F hr hlk hK out  _ _ _ _  hW hS (lv_sub hl [] rfl) h
set_option maxHeartbeats 4000000 in
set_option maxRecDepth 100000 in
theorem w_X7_markOne_107 {p : Program} {l : Launch} {e : Env} {s : State} {m : MethodId} {args : Array Value} {below : List Frame} {meth : Method} {c : Code} {G : GT} {A : Nat → Prop} (F : CallFix p m c cX7_markOne 2 s args wsX7_markOne RX7) (hr : meth.sig.returnType = none) (hlk : meth.locks = false) (hK : va_K G.1 vwCl (tyl G) s) (out : St) : ∀ (S : St) (x1 : Int32) (H : Heap) (locs : List Loc) (ls : Array Slot), Wd shC idsC G A S H → va_S A s.heap H locs → lv_has ls 2 [(0, .ref (G.2.2 1 0)), (1, .int x1)] → j_X7_markOne_107 S x1 = some out → W p l e rm_X7_markOne s m args below meth c H locs 0 0 (MQ below (QV shC idsC G A out) args s 0 0 A) (F0 m 107 ls []) := by
  intro S x1 H locs ls hW hS hl h
  unfold j_X7_markOne_107 at h
  refine lv_aload_n F.1 F.2.1 dX7_markOne_107 rfl (lv_at hl 0 rfl) ?_
  refine rw_get (q0 := 1) F hK hW idC_1 rfl rfl in_X7_markOne_X7 0 (by decide) lk_X7_markOne_9 rfl dX7_markOne_108 ?_
  refine lv_iload_n F.1 F.2.1 dX7_markOne_111 rfl (lv_at hl 1 rfl) ?_
  obtain ⟨b_18, h⟩ := gd_some h
  refine rw_iald (q0 := 29) F hK hW idC_9 (fun _ => rfl) (ix_in b_18) dX7_markOne_112 ?_
  refine lv_topi (fun v_19 ev_19 => ?_)
  have h := lt_n ev_19 h
  refine lv_if_eq (tgt := 131) F.1 F.2.1 dX7_markOne_113 (by decide) (fun c_20 => ?_) (fun c_20 => ?_)
  · have h := (if_pos c_20).symm.trans h
    exact w_X7_markOne_131 F hr hlk hK out  _ _ _ _ _  hW hS hl h
  · have h := (if_neg c_20).symm.trans h
    refine lv_aload_n F.1 F.2.1 dX7_markOne_116 rfl (lv_at hl 0 rfl) ?_
    refine rw_get (q0 := 1) F hK hW idC_1 rfl rfl in_X7_markOne_X7 3 (by decide) lk_X7_markOne_21 rfl dX7_markOne_117 ?_
    refine lv_aload_n F.1 F.2.1 dX7_markOne_120 rfl (lv_at hl 0 rfl) ?_
    refine rw_get (q0 := 1) F hK hW idC_1 rfl rfl in_X7_markOne_X7 1 (by decide) lk_X7_markOne_15 rfl dX7_markOne_121 ?_
    refine lv_iload_n F.1 F.2.1 dX7_markOne_124 rfl (lv_at hl 1 rfl) ?_
    obtain ⟨b_30, h⟩ := gd_some h
    refine rw_iald (q0 := 30) F hK hW idC_10 (fun _ => rfl) (ix_in b_30) dX7_markOne_125 ?_
    refine lv_topi (fun v_31 ev_31 => ?_)
    have h := lt_n ev_31 h
    refine lv_dup2_11 F.1 F.2.1 dX7_markOne_126 rfl rfl ?_
    obtain ⟨b_32, h⟩ := gd_some h
    refine rw_iald (q0 := 32) F hK hW idC_12 (fun _ => rfl) (ix_in b_32) dX7_markOne_127 ?_
    refine lv_topi (fun v_33 ev_33 => ?_)
    have h := lt_n ev_33 h
    refine lv_iconst (v := 1) F.1 F.2.1 dX7_markOne_128 (by decide) ?_
    refine lv_iadd F.1 F.2.1 dX7_markOne_129 ?_
    obtain ⟨b_34, h⟩ := gd_some h
    refine rw_iast ndC (q0 := 32) F hK hW hS idC_12 (fun _ => rfl) (ix_in b_34) dX7_markOne_130 (fun H locs S_35 eS_35 hW hS => ?_)
    have h := lt_n eS_35 h
    exact w_X7_markOne_131 F hr hlk hK out  _ _ _ _ _  hW hS hl h
set_option maxHeartbeats 4000000 in
set_option maxRecDepth 100000 in
theorem w_X7_markOne_67 {p : Program} {l : Launch} {e : Env} {s : State} {m : MethodId} {args : Array Value} {below : List Frame} {meth : Method} {c : Code} {G : GT} {A : Nat → Prop} (F : CallFix p m c cX7_markOne 2 s args wsX7_markOne RX7) (hr : meth.sig.returnType = none) (hlk : meth.locks = false) (hK : va_K G.1 vwCl (tyl G) s) (out : St) : ∀ (S : St) (x1 : Int32) (y1 : Int32) (y2 : Int32) (H : Heap) (locs : List Loc) (ls : Array Slot), Wd shC idsC G A S H → va_S A s.heap H locs → lv_has ls 2 [(0, .ref (G.2.2 1 0)), (1, .int x1)] → j_X7_markOne_67 S x1 y1 y2 = some out → W p l e rm_X7_markOne s m args below meth c H locs 0 0 (MQ below (QV shC idsC G A out) args s 0 0 A) (F0 m 67 ls [.int y2, .int y1, .ref (G.2.2 14 0)]) := by
  intro S x1 y1 y2 H locs ls hW hS hl h
  unfold j_X7_markOne_67 at h
  obtain ⟨b_9, h⟩ := gd_some h
  refine rw_zast ndC (q0 := 34) F hK hW hS idC_14 (fun _ => rfl) (ix_in b_9) dX7_markOne_67 (fun H locs S_10 eS_10 hW hS => ?_)
  have h := lt_n eS_10 h
  refine lv_aload_n F.1 F.2.1 dX7_markOne_68 rfl (lv_at hl 0 rfl) ?_
  refine rw_get (q0 := 1) F hK hW idC_1 rfl rfl in_X7_markOne_X7 4 (by decide) lk_X7_markOne_24 rfl dX7_markOne_69 ?_
  refine lv_iload_n F.1 F.2.1 dX7_markOne_72 rfl (lv_at hl 1 rfl) ?_
  obtain ⟨b_11, h⟩ := gd_some h
  refine rw_zald (q0 := 33) F hK hW idC_13 (fun _ => rfl) (ix_in b_11) dX7_markOne_73 ?_
  refine lv_topi (fun v_12 ev_12 => ?_)
  have h := lt_n ev_12 h
  refine lv_if_ne (tgt := 78) F.1 F.2.1 dX7_markOne_74 (by decide) (fun c_13 => ?_) (fun c_13 => ?_)
  · have h := (if_neg c_13).symm.trans h
    refine lv_aload_n F.1 F.2.1 dX7_markOne_78 rfl (lv_at hl 0 rfl) ?_
    refine lv_dup F.1 F.2.1 dX7_markOne_79 rfl ?_
    refine rw_get (q0 := 1) F hK hW idC_1 rfl rfl in_X7_markOne_X7 7 (by decide) lk_X7_markOne_35 rfl dX7_markOne_80 ?_
    refine lv_iconst (v := 1) F.1 F.2.1 dX7_markOne_83 (by decide) ?_
    refine lv_iadd F.1 F.2.1 dX7_markOne_84 ?_
    refine rw_put ndC (q0 := 1) (x := (S_10 1 0 7) + 1) F hK hW hS idC_1 rfl rfl in_X7_markOne_X7 tyX7 tyX7_ok nmX7 7 (by decide) lk_X7_markOne_35 rfl (ty := .int) (by decide +kernel) rfl rfl (Nat.le_of_ble_eq_true rfl) rfl dX7_markOne_85 (fun H locs S_14 eS_14 hW hS => ?_)
    have h := lt_n eS_14 h
    refine lv_aload_n F.1 F.2.1 dX7_markOne_88 rfl (lv_at hl 0 rfl) ?_
    refine rw_get (q0 := 1) F hK hW idC_1 rfl rfl in_X7_markOne_X7 5 (by decide) lk_X7_markOne_28 rfl dX7_markOne_89 ?_
    refine lv_iload_n F.1 F.2.1 dX7_markOne_92 rfl (lv_at hl 1 rfl) ?_
    obtain ⟨b_15, h⟩ := gd_some h
    refine rw_zald (q0 := 34) F hK hW idC_14 (fun _ => rfl) (ix_in b_15) dX7_markOne_93 ?_
    refine lv_topi (fun v_16 ev_16 => ?_)
    have h := lt_n ev_16 h
    refine lv_if_eq (tgt := 107) F.1 F.2.1 dX7_markOne_94 (by decide) (fun c_17 => ?_) (fun c_17 => ?_)
    · have h := (if_pos c_17).symm.trans h
      exact w_X7_markOne_107 F hr hlk hK out  _ _ _ _ _  hW hS hl h
    · have h := (if_neg c_17).symm.trans h
      refine lv_aload_n F.1 F.2.1 dX7_markOne_97 rfl (lv_at hl 0 rfl) ?_
      refine lv_dup F.1 F.2.1 dX7_markOne_98 rfl ?_
      refine rw_get (q0 := 1) F hK hW idC_1 rfl rfl in_X7_markOne_X7 8 (by decide) lk_X7_markOne_38 rfl dX7_markOne_99 ?_
      refine lv_iconst (v := 1) F.1 F.2.1 dX7_markOne_102 (by decide) ?_
      refine lv_iadd F.1 F.2.1 dX7_markOne_103 ?_
      refine rw_put ndC (q0 := 1) (x := (S_14 1 0 8) + 1) F hK hW hS idC_1 rfl rfl in_X7_markOne_X7 tyX7 tyX7_ok nmX7 8 (by decide) lk_X7_markOne_38 rfl (ty := .int) (by decide +kernel) rfl rfl (Nat.le_of_ble_eq_true rfl) rfl dX7_markOne_104 (fun H locs S_36 eS_36 hW hS => ?_)
      have h := lt_n eS_36 h
      exact w_X7_markOne_107 F hr hlk hK out  _ _ _ _ _  hW hS hl h
  · have h := (if_pos c_13).symm.trans h
    exact rw_retv F hr hlk hK hW hS h dX7_markOne_77
set_option maxHeartbeats 4000000 in
set_option maxRecDepth 100000 in
theorem w_X7_markOne_66 {p : Program} {l : Launch} {e : Env} {s : State} {m : MethodId} {args : Array Value} {below : List Frame} {meth : Method} {c : Code} {G : GT} {A : Nat → Prop} (F : CallFix p m c cX7_markOne 2 s args wsX7_markOne RX7) (hr : meth.sig.returnType = none) (hlk : meth.locks = false) (hK : va_K G.1 vwCl (tyl G) s) (out : St) : ∀ (S : St) (x1 : Int32) (y1 : Int32) (H : Heap) (locs : List Loc) (ls : Array Slot), Wd shC idsC G A S H → va_S A s.heap H locs → lv_has ls 2 [(0, .ref (G.2.2 1 0)), (1, .int x1)] → j_X7_markOne_66 S x1 y1 = some out → W p l e rm_X7_markOne s m args below meth c H locs 0 0 (MQ below (QV shC idsC G A out) args s 0 0 A) (F0 m 66 ls [.int y1, .ref (G.2.2 14 0)]) := by
  intro S x1 y1 H locs ls hW hS hl h
  unfold j_X7_markOne_66 at h
  refine lv_iconst (v := 0) F.1 F.2.1 dX7_markOne_66 (by decide) ?_
  exact w_X7_markOne_67 F hr hlk hK out  _ _ _ _ _ _ _  hW hS hl h
set_option maxHeartbeats 4000000 in
set_option maxRecDepth 100000 in
theorem w_X7_markOne_62 {p : Program} {l : Launch} {e : Env} {s : State} {m : MethodId} {args : Array Value} {below : List Frame} {meth : Method} {c : Code} {G : GT} {A : Nat → Prop} (F : CallFix p m c cX7_markOne 2 s args wsX7_markOne RX7) (hr : meth.sig.returnType = none) (hlk : meth.locks = false) (hK : va_K G.1 vwCl (tyl G) s) (out : St) : ∀ (S : St) (x1 : Int32) (y1 : Int32) (H : Heap) (locs : List Loc) (ls : Array Slot), Wd shC idsC G A S H → va_S A s.heap H locs → lv_has ls 2 [(0, .ref (G.2.2 1 0)), (1, .int x1)] → j_X7_markOne_62 S x1 y1 = some out → W p l e rm_X7_markOne s m args below meth c H locs 0 0 (MQ below (QV shC idsC G A out) args s 0 0 A) (F0 m 62 ls [.int y1, .ref (G.2.2 14 0)]) := by
  intro S x1 y1 H locs ls hW hS hl h
  unfold j_X7_markOne_62 at h
  refine lv_iconst (v := 1) F.1 F.2.1 dX7_markOne_62 (by decide) ?_
  refine lv_goto (tgt := 67) F.1 F.2.1 dX7_markOne_63 (by decide) ?_
  exact w_X7_markOne_67 F hr hlk hK out  _ _ _ _ _ _ _  hW hS hl h
set_option maxHeartbeats 4000000 in
set_option maxRecDepth 100000 in
theorem w_X7_markOne_19 {p : Program} {l : Launch} {e : Env} {s : State} {m : MethodId} {args : Array Value} {below : List Frame} {meth : Method} {c : Code} {G : GT} {A : Nat → Prop} (F : CallFix p m c cX7_markOne 2 s args wsX7_markOne RX7) (hr : meth.sig.returnType = none) (hlk : meth.locks = false) (hK : va_K G.1 vwCl (tyl G) s) (out : St) : ∀ (S : St) (x1 : Int32) (y1 : Int32) (y2 : Int32) (H : Heap) (locs : List Loc) (ls : Array Slot), Wd shC idsC G A S H → va_S A s.heap H locs → lv_has ls 2 [(0, .ref (G.2.2 1 0)), (1, .int x1)] → j_X7_markOne_19 S x1 y1 y2 = some out → W p l e rm_X7_markOne s m args below meth c H locs 0 0 (MQ below (QV shC idsC G A out) args s 0 0 A) (F0 m 19 ls [.int y2, .int y1, .ref (G.2.2 13 0)]) := by
  intro S x1 y1 y2 H locs ls hW hS hl h
  unfold j_X7_markOne_19 at h
  obtain ⟨b_4, h⟩ := gd_some h
  refine rw_zast ndC (q0 := 33) F hK hW hS idC_13 (fun _ => rfl) (ix_in b_4) dX7_markOne_19 (fun H locs S_5 eS_5 hW hS => ?_)
  have h := lt_n eS_5 h
  refine lv_aload_n F.1 F.2.1 dX7_markOne_20 rfl (lv_at hl 0 rfl) ?_
  refine rw_get (q0 := 1) F hK hW idC_1 rfl rfl in_X7_markOne_X7 5 (by decide) lk_X7_markOne_28 rfl dX7_markOne_21 ?_
  refine lv_iload_n F.1 F.2.1 dX7_markOne_24 rfl (lv_at hl 1 rfl) ?_
  refine lv_aload_n F.1 F.2.1 dX7_markOne_25 rfl (lv_at hl 0 rfl) ?_
  refine rw_get (q0 := 1) F hK hW idC_1 rfl rfl in_X7_markOne_X7 4 (by decide) lk_X7_markOne_24 rfl dX7_markOne_26 ?_
  refine lv_iload_n F.1 F.2.1 dX7_markOne_29 rfl (lv_at hl 1 rfl) ?_
  obtain ⟨b_6, h⟩ := gd_some h
  refine rw_zald (q0 := 33) F hK hW idC_13 (fun _ => rfl) (ix_in b_6) dX7_markOne_30 ?_
  refine lv_topi (fun v_7 ev_7 => ?_)
  have h := lt_n ev_7 h
  refine lv_if_eq (tgt := 66) F.1 F.2.1 dX7_markOne_31 (by decide) (fun c_8 => ?_) (fun c_8 => ?_)
  · have h := (if_pos c_8).symm.trans h
    exact w_X7_markOne_66 F hr hlk hK out  _ _ _ _ _ _  hW hS hl h
  · have h := (if_neg c_8).symm.trans h
    refine lv_aload_n F.1 F.2.1 dX7_markOne_34 rfl (lv_at hl 0 rfl) ?_
    refine rw_get (q0 := 1) F hK hW idC_1 rfl rfl in_X7_markOne_X7 0 (by decide) lk_X7_markOne_9 rfl dX7_markOne_35 ?_
    refine lv_iload_n F.1 F.2.1 dX7_markOne_38 rfl (lv_at hl 1 rfl) ?_
    obtain ⟨b_37, h⟩ := gd_some h
    refine rw_iald (q0 := 29) F hK hW idC_9 (fun _ => rfl) (ix_in b_37) dX7_markOne_39 ?_
    refine lv_topi (fun v_38 ev_38 => ?_)
    have h := lt_n ev_38 h
    refine lv_if_eq (tgt := 66) F.1 F.2.1 dX7_markOne_40 (by decide) (fun c_39 => ?_) (fun c_39 => ?_)
    · have h := (if_pos c_39).symm.trans h
      exact w_X7_markOne_66 F hr hlk hK out  _ _ _ _ _ _  hW hS hl h
    · have h := (if_neg c_39).symm.trans h
      refine lv_aload_n F.1 F.2.1 dX7_markOne_43 rfl (lv_at hl 0 rfl) ?_
      refine rw_get (q0 := 1) F hK hW idC_1 rfl rfl in_X7_markOne_X7 5 (by decide) lk_X7_markOne_28 rfl dX7_markOne_44 ?_
      refine lv_iload_n F.1 F.2.1 dX7_markOne_47 rfl (lv_at hl 1 rfl) ?_
      obtain ⟨b_40, h⟩ := gd_some h
      refine rw_zald (q0 := 34) F hK hW idC_14 (fun _ => rfl) (ix_in b_40) dX7_markOne_48 ?_
      refine lv_topi (fun v_41 ev_41 => ?_)
      have h := lt_n ev_41 h
      refine lv_if_ne (tgt := 62) F.1 F.2.1 dX7_markOne_49 (by decide) (fun c_42 => ?_) (fun c_42 => ?_)
      · have h := (if_neg c_42).symm.trans h
        exact w_X7_markOne_62 F hr hlk hK out  _ _ _ _ _ _  hW hS hl h
      · have h := (if_pos c_42).symm.trans h
        refine lv_aload_n F.1 F.2.1 dX7_markOne_52 rfl (lv_at hl 0 rfl) ?_
        refine rw_get (q0 := 1) F hK hW idC_1 rfl rfl in_X7_markOne_X7 3 (by decide) lk_X7_markOne_21 rfl dX7_markOne_53 ?_
        refine lv_iload_n F.1 F.2.1 dX7_markOne_56 rfl (lv_at hl 1 rfl) ?_
        obtain ⟨b_43, h⟩ := gd_some h
        refine rw_iald (q0 := 32) F hK hW idC_12 (fun _ => rfl) (ix_in b_43) dX7_markOne_57 ?_
        refine lv_topi (fun v_44 ev_44 => ?_)
        have h := lt_n ev_44 h
        refine lv_iconst (v := 1) F.1 F.2.1 dX7_markOne_58 (by decide) ?_
        refine lv_icmp_eq (tgt := 66) F.1 F.2.1 dX7_markOne_59 (by decide) (fun c_45 => ?_) (fun c_45 => ?_)
        · have h := (if_pos c_45).symm.trans h
          exact w_X7_markOne_66 F hr hlk hK out  _ _ _ _ _ _  hW hS hl h
        · have h := (if_neg c_45).symm.trans h
          exact w_X7_markOne_62 F hr hlk hK out  _ _ _ _ _ _  hW hS hl h
set_option maxHeartbeats 4000000 in
set_option maxRecDepth 100000 in
theorem c_X7_markOne (l : Launch) (G : GT) (A : Nat → Prop) (a0 : Int32) (S : St) (out : St) (h : f_X7_markOne a0 S = some out) : Met l yX7_markOne wsX7_markOne rm_X7_markOne (va_Pc [.ref (G.2.2 1 0), .int a0] (WD shC idsC G A S)) (QV shC idsC G A out) 0 0 A := by
  refine Met.ofW (cc := cX7_markOne) (maxL := 2) (ret := none) (by decide) rfl ?_
  intro p e s m args below meth c s₁ B hml hv
  obtain ⟨rfl, hW, hK⟩ := hv
  have F : CallFix p m c cX7_markOne 2 s _ wsX7_markOne RX7 := ⟨B.exec, B.bytes, hml, findClass_of_methodNamed B.named, atoms_spec (ws := wsX7_markOne) B.pre⟩
  have hr := B.returns
  have hlk := B.notSynchronized
  have hS : va_S A s.heap s.heap [] := va_S.rf
  have hl := lv_entry ([.ref (G.2.2 1 0), .int a0]) (n := 2) (Nat.le_of_ble_eq_true rfl)
  rw [lg_entry_eq]
  generalize (lg_sl ([.ref (G.2.2 1 0), .int a0]) ++ List.replicate (2 - (lg_sl ([.ref (G.2.2 1 0), .int a0])).length) Slot.unset).toArray = ls at hl ⊢
  have hl : lv_has ls 2 [(0, .ref (G.2.2 1 0)), (1, .int a0)] := hl
  unfold f_X7_markOne at h
  refine lv_aload_n F.1 F.2.1 dX7_markOne_0 rfl (lv_at hl 0 rfl) ?_
  refine rw_get (q0 := 1) F hK hW idC_1 rfl rfl in_X7_markOne_X7 4 (by decide) lk_X7_markOne_24 rfl dX7_markOne_1 ?_
  refine lv_iload_n F.1 F.2.1 dX7_markOne_4 rfl (lv_at hl 1 rfl) ?_
  refine lv_aload_n F.1 F.2.1 dX7_markOne_5 rfl (lv_at hl 0 rfl) ?_
  refine rw_get (q0 := 1) F hK hW idC_1 rfl rfl in_X7_markOne_X7 3 (by decide) lk_X7_markOne_21 rfl dX7_markOne_6 ?_
  refine lv_iload_n F.1 F.2.1 dX7_markOne_9 rfl (lv_at hl 1 rfl) ?_
  obtain ⟨b_1, h⟩ := gd_some h
  refine rw_iald (q0 := 32) F hK hW idC_12 (fun _ => rfl) (ix_in b_1) dX7_markOne_10 ?_
  refine lv_topi (fun v_2 ev_2 => ?_)
  have h := lt_n ev_2 h
  refine lv_if_le (tgt := 18) F.1 F.2.1 dX7_markOne_11 (by decide) (fun c_3 => ?_) (fun c_3 => ?_)
  · have h := (if_pos c_3).symm.trans h
    refine lv_iconst (v := 0) F.1 F.2.1 dX7_markOne_18 (by decide) ?_
    exact w_X7_markOne_19 F hr hlk hK out  _ _ _ _ _ _ _  hW hS hl h
  · have h := (if_neg c_3).symm.trans h
    refine lv_iconst (v := 1) F.1 F.2.1 dX7_markOne_14 (by decide) ?_
    refine lv_goto (tgt := 19) F.1 F.2.1 dX7_markOne_15 (by decide) ?_
    exact w_X7_markOne_19 F hr hlk hK out  _ _ _ _ _ _ _  hW hS hl h
/-! CellCover$Vertices.mark(LCellCover$Net;)V -/
abbrev rm_X7_mark : Room := { frames := 1, cells := 0, slots := 0, locals := 21 }
theorem in_X7_mark_X7 : ∀ w ∈ wsX70, w ∈ wsX7_mark := by decide +kernel
theorem in_X7_mark_X5 : ∀ w ∈ wsX50, w ∈ wsX7_mark := by decide +kernel
theorem lk_X7_mark_31 : Cond.fieldLink RX7 31 "CellCover$Vertices" "many" "I" ∈ wsX7_mark := by decide +kernel
theorem lk_X7_mark_21 : Cond.fieldLink RX7 21 "CellCover$Vertices" "uses" "[I" ∈ wsX7_mark := by decide +kernel
theorem lk_X7_mark_28 : Cond.fieldLink RX7 28 "CellCover$Vertices" "root" "[Z" ∈ wsX7_mark := by decide +kernel
theorem lk_X7_mark_75 : Cond.fieldLink RX7 75 "CellCover$Net" "outputs" "I" ∈ wsX7_mark := by decide +kernel
theorem lk_X7_mark_35 : Cond.fieldLink RX7 35 "CellCover$Vertices" "living" "I" ∈ wsX7_mark := by decide +kernel
theorem lk_X7_mark_38 : Cond.fieldLink RX7 38 "CellCover$Vertices" "roots" "I" ∈ wsX7_mark := by decide +kernel
set_option maxHeartbeats 4000000 in
set_option maxRecDepth 100000 in
theorem w_X7_mark_2 {p : Program} {l : Launch} {e : Env} {s : State} {m : MethodId} {args : Array Value} {below : List Frame} {meth : Method} {c : Code} {G : GT} {A : Nat → Prop} (F : CallFix p m c cX7_mark 4 s args wsX7_mark RX7) (hr : meth.sig.returnType = none) (hlk : meth.locks = false) (hK : va_K G.1 vwCl (tyl G) s) (out : St) (k30 : St → Option (St)) (K30 : ∀ (S : St) (H : Heap) (locs : List Loc) (ls : Array Slot), Wd shC idsC G A S H → va_S A s.heap H locs → lv_has ls 4 [(0, .ref (G.2.2 1 0)), (1, .ref (G.2.2 2 0))] → k30 S = some out → W p l e rm_X7_mark s m args below meth c H locs 0 0 (MQ below (QV shC idsC G A out) args s 0 0 A) (F0 m 30 ls [])) : ∀ n : Nat, ∀ (S : St) (x2 : Int32) (H : Heap) (locs : List Loc) (ls : Array Slot), Wd shC idsC G A S H → va_S A s.heap H locs → lv_has ls 4 [(0, .ref (G.2.2 1 0)), (1, .ref (G.2.2 2 0)), (2, .int x2)] → l_X7_mark_2 k30 n S x2 = some out → W p l e rm_X7_mark s m args below meth c H locs 0 0 (MQ below (QV shC idsC G A out) args s 0 0 A) (F0 m 2 ls []) := by
  intro n
  induction n with
  | zero =>
    intro S x2 H locs ls hW hS hl h
    cases h
  | succ n Kb =>
    generalize hkb : l_X7_mark_2 k30 n = kb at Kb
    intro S x2 H locs ls hW hS hl h
    rw [show l_X7_mark_2 k30 (n + 1) = b_X7_mark_2 (l_X7_mark_2 k30 n) k30 from rfl, hkb] at h
    unfold b_X7_mark_2 at h
    refine lv_iload_n F.1 F.2.1 dX7_mark_2 rfl (lv_at hl 2 rfl) ?_
    refine lv_aload_n F.1 F.2.1 dX7_mark_3 rfl (lv_at hl 0 rfl) ?_
    refine rw_get (q0 := 1) F hK hW idC_1 rfl rfl in_X7_mark_X7 6 (by decide) lk_X7_mark_31 rfl dX7_mark_4 ?_
    refine lv_icmp_ge (tgt := 30) F.1 F.2.1 dX7_mark_7 (by decide) (fun c_1 => ?_) (fun c_1 => ?_)
    · have h := (if_pos c_1).symm.trans h
      exact K30 _ _ _ _  hW hS (lv_sub hl [0, 1] rfl) h
    · have h := (if_neg c_1).symm.trans h
      refine lv_aload_n F.1 F.2.1 dX7_mark_10 rfl (lv_at hl 0 rfl) ?_
      refine rw_get (q0 := 1) F hK hW idC_1 rfl rfl in_X7_mark_X7 3 (by decide) lk_X7_mark_21 rfl dX7_mark_11 ?_
      refine lv_iload_n F.1 F.2.1 dX7_mark_14 rfl (lv_at hl 2 rfl) ?_
      refine lv_iconst (v := 0) F.1 F.2.1 dX7_mark_15 (by decide) ?_
      obtain ⟨b_2, h⟩ := gd_some h
      refine rw_iast ndC (q0 := 32) F hK hW hS idC_12 (fun _ => rfl) (ix_in b_2) dX7_mark_16 (fun H locs S_3 eS_3 hW hS => ?_)
      have h := lt_n eS_3 h
      refine lv_aload_n F.1 F.2.1 dX7_mark_17 rfl (lv_at hl 0 rfl) ?_
      refine rw_get (q0 := 1) F hK hW idC_1 rfl rfl in_X7_mark_X7 5 (by decide) lk_X7_mark_28 rfl dX7_mark_18 ?_
      refine lv_iload_n F.1 F.2.1 dX7_mark_21 rfl (lv_at hl 2 rfl) ?_
      refine lv_iconst (v := 0) F.1 F.2.1 dX7_mark_22 (by decide) ?_
      obtain ⟨b_4, h⟩ := gd_some h
      refine rw_zast ndC (q0 := 34) F hK hW hS idC_14 (fun _ => rfl) (ix_in b_4) dX7_mark_23 (fun H locs S_5 eS_5 hW hS => ?_)
      have h := lt_n eS_5 h
      obtain ⟨v_6, ev_6⟩ : ∃ y : Int32, y = x2 + 1 := ⟨_, rfl⟩
      have h := lt_n ev_6 h
      refine lv_iinc (v := v_6) (lv' := [(2, .int v_6), (0, .ref (G.2.2 1 0)), (1, .ref (G.2.2 2 0))]) F.1 F.2.1 dX7_mark_24 hl (k := 2) rfl (by rw [ev_6]; rfl) (by decide) rfl (fun ls hl => ?_)
      refine lv_goto (tgt := 2) F.1 F.2.1 dX7_mark_27 (by decide) ?_
      exact Kb _ _ _ _ _  hW hS (lv_sub hl [1, 2, 0] rfl) h
set_option maxHeartbeats 4000000 in
set_option maxRecDepth 100000 in
theorem w_X7_mark_32 {p : Program} {l : Launch} {e : Env} {s : State} {m : MethodId} {args : Array Value} {below : List Frame} {meth : Method} {c : Code} {G : GT} {A : Nat → Prop} (F : CallFix p m c cX7_mark 4 s args wsX7_mark RX7) (hr : meth.sig.returnType = none) (hlk : meth.locks = false) (hK : va_K G.1 vwCl (tyl G) s) (out : St) (k69 : St → Option (St)) (K69 : ∀ (S : St) (H : Heap) (locs : List Loc) (ls : Array Slot), Wd shC idsC G A S H → va_S A s.heap H locs → lv_has ls 4 [(0, .ref (G.2.2 1 0))] → k69 S = some out → W p l e rm_X7_mark s m args below meth c H locs 0 0 (MQ below (QV shC idsC G A out) args s 0 0 A) (F0 m 69 ls [])) : ∀ n : Nat, ∀ (S : St) (x2 : Int32) (H : Heap) (locs : List Loc) (ls : Array Slot), Wd shC idsC G A S H → va_S A s.heap H locs → lv_has ls 4 [(0, .ref (G.2.2 1 0)), (1, .ref (G.2.2 2 0)), (2, .int x2)] → l_X7_mark_32 k69 n S x2 = some out → W p l e rm_X7_mark s m args below meth c H locs 0 0 (MQ below (QV shC idsC G A out) args s 0 0 A) (F0 m 32 ls []) := by
  intro n
  induction n with
  | zero =>
    intro S x2 H locs ls hW hS hl h
    cases h
  | succ n Kb =>
    generalize hkb : l_X7_mark_32 k69 n = kb at Kb
    intro S x2 H locs ls hW hS hl h
    rw [show l_X7_mark_32 k69 (n + 1) = b_X7_mark_32 (l_X7_mark_32 k69 n) k69 from rfl, hkb] at h
    unfold b_X7_mark_32 at h
    refine lv_iload_n F.1 F.2.1 dX7_mark_32 rfl (lv_at hl 2 rfl) ?_
    refine lv_aload_n F.1 F.2.1 dX7_mark_33 rfl (lv_at hl 1 rfl) ?_
    refine rw_get (q0 := 2) F hK hW idC_2 rfl rfl in_X7_mark_X5 10 (by decide) lk_X7_mark_75 rfl dX7_mark_34 ?_
    refine lv_icmp_ge (tgt := 69) F.1 F.2.1 dX7_mark_37 (by decide) (fun c_7 => ?_) (fun c_7 => ?_)
    · have h := (if_pos c_7).symm.trans h
      exact K69 _ _ _ _  hW hS (lv_sub hl [0] rfl) h
    · have h := (if_neg c_7).symm.trans h
      refine lv_aload_n F.1 F.2.1 dX7_mark_40 rfl (lv_at hl 1 rfl) ?_
      refine lv_iload_n F.1 F.2.1 dX7_mark_41 rfl (lv_at hl 2 rfl) ?_
      obtain ⟨r_9, S_10, hq_8, h⟩ := bi_some h
      refine rw_vi F hK hW hS [.int x2] (rest := []) (c_X5_outputVertex l G A x2 S (r_9, S_10) hq_8) (cwV 1 F.2.2.2.2 gX7_mark_X5_outputVertex rfl rfl rfl (by decide +kernel) ⟨Nat.le_of_ble_eq_true rfl, Nat.le_of_ble_eq_true rfl⟩) (rw_recv (q0 := 2) hK hW idC_2 rfl rfl) rfl hl.1 rfl (Nat.le_of_ble_eq_true rfl) dX7_mark_42 (fun H locs hW hS => ?_)
      refine lv_istore_n (lv' := [(3, .int r_9), (0, .ref (G.2.2 1 0)), (1, .ref (G.2.2 2 0)), (2, .int x2)]) F.1 F.2.1 dX7_mark_45 rfl hl (by decide) rfl (fun ls hl => ?_)
      refine lv_aload_n F.1 F.2.1 dX7_mark_46 rfl (lv_at hl 1 rfl) ?_
      refine rw_get (q0 := 1) F hK hW idC_1 rfl rfl in_X7_mark_X7 3 (by decide) lk_X7_mark_21 rfl dX7_mark_47 ?_
      refine lv_iload_n F.1 F.2.1 dX7_mark_50 rfl (lv_at hl 0 rfl) ?_
      refine lv_dup2_11 F.1 F.2.1 dX7_mark_51 rfl rfl ?_
      obtain ⟨b_11, h⟩ := gd_some h
      refine rw_iald (q0 := 32) F hK hW idC_12 (fun _ => rfl) (ix_in b_11) dX7_mark_52 ?_
      refine lv_topi (fun v_12 ev_12 => ?_)
      have h := lt_n ev_12 h
      refine lv_iconst (v := 1) F.1 F.2.1 dX7_mark_53 (by decide) ?_
      refine lv_iadd F.1 F.2.1 dX7_mark_54 ?_
      obtain ⟨b_13, h⟩ := gd_some h
      refine rw_iast ndC (q0 := 32) F hK hW hS idC_12 (fun _ => rfl) (ix_in b_13) dX7_mark_55 (fun H locs S_14 eS_14 hW hS => ?_)
      have h := lt_n eS_14 h
      refine lv_aload_n F.1 F.2.1 dX7_mark_56 rfl (lv_at hl 1 rfl) ?_
      refine rw_get (q0 := 1) F hK hW idC_1 rfl rfl in_X7_mark_X7 5 (by decide) lk_X7_mark_28 rfl dX7_mark_57 ?_
      refine lv_iload_n F.1 F.2.1 dX7_mark_60 rfl (lv_at hl 0 rfl) ?_
      refine lv_iconst (v := 1) F.1 F.2.1 dX7_mark_61 (by decide) ?_
      obtain ⟨b_15, h⟩ := gd_some h
      refine rw_zast ndC (q0 := 34) F hK hW hS idC_14 (fun _ => rfl) (ix_in b_15) dX7_mark_62 (fun H locs S_16 eS_16 hW hS => ?_)
      have h := lt_n eS_16 h
      obtain ⟨v_17, ev_17⟩ : ∃ y : Int32, y = x2 + 1 := ⟨_, rfl⟩
      have h := lt_n ev_17 h
      refine lv_iinc (v := v_17) (lv' := [(2, .int v_17), (3, .int r_9), (0, .ref (G.2.2 1 0)), (1, .ref (G.2.2 2 0))]) F.1 F.2.1 dX7_mark_63 hl (k := 3) rfl (by rw [ev_17]; rfl) (by decide) rfl (fun ls hl => ?_)
      refine lv_goto (tgt := 32) F.1 F.2.1 dX7_mark_66 (by decide) ?_
      exact Kb _ _ _ _ _  hW hS (lv_sub hl [2, 3, 0] rfl) h
set_option maxHeartbeats 4000000 in
set_option maxRecDepth 100000 in
theorem w_X7_mark_86 {p : Program} {l : Launch} {e : Env} {s : State} {m : MethodId} {args : Array Value} {below : List Frame} {meth : Method} {c : Code} {G : GT} {A : Nat → Prop} (F : CallFix p m c cX7_mark 4 s args wsX7_mark RX7) (hr : meth.sig.returnType = none) (hlk : meth.locks = false) (hK : va_K G.1 vwCl (tyl G) s) (out : St) : ∀ n : Nat, ∀ (S : St) (x2 : Int32) (H : Heap) (locs : List Loc) (ls : Array Slot), Wd shC idsC G A S H → va_S A s.heap H locs → lv_has ls 4 [(0, .ref (G.2.2 1 0)), (2, .int x2)] → l_X7_mark_86 n S x2 = some out → W p l e rm_X7_mark s m args below meth c H locs 0 0 (MQ below (QV shC idsC G A out) args s 0 0 A) (F0 m 86 ls []) := by
  intro n
  induction n with
  | zero =>
    intro S x2 H locs ls hW hS hl h
    cases h
  | succ n Kb =>
    generalize hkb : l_X7_mark_86 n = kb at Kb
    intro S x2 H locs ls hW hS hl h
    rw [show l_X7_mark_86 (n + 1) = b_X7_mark_86 (l_X7_mark_86 n) from rfl, hkb] at h
    unfold b_X7_mark_86 at h
    refine lv_iload_n F.1 F.2.1 dX7_mark_86 rfl (lv_at hl 1 rfl) ?_
    refine lv_if_lt (tgt := 101) F.1 F.2.1 dX7_mark_87 (by decide) (fun c_21 => ?_) (fun c_21 => ?_)
    · have h := (if_pos c_21).symm.trans h
      exact rw_retv F hr hlk hK hW hS h dX7_mark_101
    · have h := (if_neg c_21).symm.trans h
      refine lv_aload_n F.1 F.2.1 dX7_mark_90 rfl (lv_at hl 0 rfl) ?_
      refine lv_iload_n F.1 F.2.1 dX7_mark_91 rfl (lv_at hl 1 rfl) ?_
      obtain ⟨q_22, hq_22, h⟩ := bv_some h
      refine rw_vv F hK hW hS [.int x2] (rest := []) (c_X7_markOne l G A x2 S q_22 hq_22) (cwV 1 F.2.2.2.2 gX7_mark_X7_markOne rfl rfl rfl (by decide +kernel) ⟨Nat.le_of_ble_eq_true rfl, Nat.le_of_ble_eq_true rfl⟩) (rw_recv (q0 := 1) hK hW idC_1 rfl rfl) rfl hl.1 rfl (Nat.le_of_ble_eq_true rfl) dX7_mark_92 (fun H locs hW hS => ?_)
      obtain ⟨v_24, ev_24⟩ : ∃ y : Int32, y = x2 + (-1) := ⟨_, rfl⟩
      have h := lt_n ev_24 h
      refine lv_iinc (v := v_24) (lv' := [(2, .int v_24), (0, .ref (G.2.2 1 0))]) F.1 F.2.1 dX7_mark_95 hl (k := 1) rfl (by rw [ev_24]; rfl) (by decide) rfl (fun ls hl => ?_)
      refine lv_goto (tgt := 86) F.1 F.2.1 dX7_mark_98 (by decide) ?_
      exact Kb _ _ _ _ _  hW hS (lv_sub hl [1, 0] rfl) h
set_option maxHeartbeats 4000000 in
set_option maxRecDepth 100000 in
theorem c_X7_mark (l : Launch) (G : GT) (A : Nat → Prop) (S : St) (out : St) (h : f_X7_mark S = some out) : Met l yX7_mark wsX7_mark rm_X7_mark (va_Pc [.ref (G.2.2 1 0), .ref (G.2.2 2 0)] (WD shC idsC G A S)) (QV shC idsC G A out) 0 0 A := by
  refine Met.ofW (cc := cX7_mark) (maxL := 4) (ret := none) (by decide) rfl ?_
  intro p e s m args below meth c s₁ B hml hv
  obtain ⟨rfl, hW, hK⟩ := hv
  have F : CallFix p m c cX7_mark 4 s _ wsX7_mark RX7 := ⟨B.exec, B.bytes, hml, findClass_of_methodNamed B.named, atoms_spec (ws := wsX7_mark) B.pre⟩
  have hr := B.returns
  have hlk := B.notSynchronized
  have hS : va_S A s.heap s.heap [] := va_S.rf
  have hl := lv_entry ([.ref (G.2.2 1 0), .ref (G.2.2 2 0)]) (n := 4) (Nat.le_of_ble_eq_true rfl)
  rw [lg_entry_eq]
  generalize (lg_sl ([.ref (G.2.2 1 0), .ref (G.2.2 2 0)]) ++ List.replicate (4 - (lg_sl ([.ref (G.2.2 1 0), .ref (G.2.2 2 0)])).length) Slot.unset).toArray = ls at hl ⊢
  have hl : lv_has ls 4 [(0, .ref (G.2.2 1 0)), (1, .ref (G.2.2 2 0))] := hl
  unfold f_X7_mark at h
  refine lv_iconst (v := 0) F.1 F.2.1 dX7_mark_0 (by decide) ?_
  refine lv_istore_n (lv' := [(2, .int 0), (0, .ref (G.2.2 1 0)), (1, .ref (G.2.2 2 0))]) F.1 F.2.1 dX7_mark_1 rfl hl (by decide) rfl (fun ls hl => ?_)
  refine w_X7_mark_2 F hr hlk hK out _ ?_ 5000 _ _ _ _ _  hW hS (lv_sub hl [1, 2, 0] rfl) h
  · intro S H locs ls hW hS hl h
    refine lv_iconst (v := 0) F.1 F.2.1 dX7_mark_30 (by decide) ?_
    refine lv_istore_n (lv' := [(2, .int 0), (0, .ref (G.2.2 1 0)), (1, .ref (G.2.2 2 0))]) F.1 F.2.1 dX7_mark_31 rfl hl (by decide) rfl (fun ls hl => ?_)
    refine w_X7_mark_32 F hr hlk hK out _ ?_ 5000 _ _ _ _ _  hW hS (lv_sub hl [1, 2, 0] rfl) h
    · intro S H locs ls hW hS hl h
      refine lv_aload_n F.1 F.2.1 dX7_mark_69 rfl (lv_at hl 0 rfl) ?_
      refine lv_iconst (v := 0) F.1 F.2.1 dX7_mark_70 (by decide) ?_
      refine rw_put ndC (q0 := 1) (x := 0) F hK hW hS idC_1 rfl rfl in_X7_mark_X7 tyX7 tyX7_ok nmX7 7 (by decide) lk_X7_mark_35 rfl (ty := .int) (by decide +kernel) rfl rfl (Nat.le_of_ble_eq_true rfl) rfl dX7_mark_71 (fun H locs S_18 eS_18 hW hS => ?_)
      have h := lt_n eS_18 h
      refine lv_aload_n F.1 F.2.1 dX7_mark_74 rfl (lv_at hl 0 rfl) ?_
      refine lv_iconst (v := 0) F.1 F.2.1 dX7_mark_75 (by decide) ?_
      refine rw_put ndC (q0 := 1) (x := 0) F hK hW hS idC_1 rfl rfl in_X7_mark_X7 tyX7 tyX7_ok nmX7 8 (by decide) lk_X7_mark_38 rfl (ty := .int) (by decide +kernel) rfl rfl (Nat.le_of_ble_eq_true rfl) rfl dX7_mark_76 (fun H locs S_19 eS_19 hW hS => ?_)
      have h := lt_n eS_19 h
      refine lv_aload_n F.1 F.2.1 dX7_mark_79 rfl (lv_at hl 0 rfl) ?_
      refine rw_get (q0 := 1) F hK hW idC_1 rfl rfl in_X7_mark_X7 6 (by decide) lk_X7_mark_31 rfl dX7_mark_80 ?_
      refine lv_iconst (v := 1) F.1 F.2.1 dX7_mark_83 (by decide) ?_
      refine lv_isub F.1 F.2.1 dX7_mark_84 ?_
      refine lv_topi (fun v_20 ev_20 => ?_)
      have h := lt_n ev_20 h
      refine lv_istore_n (lv' := [(2, .int v_20), (0, .ref (G.2.2 1 0))]) F.1 F.2.1 dX7_mark_85 rfl hl (by decide) rfl (fun ls hl => ?_)
      refine w_X7_mark_86 F hr hlk hK out   5000 _ _ _ _ _  hW hS (lv_sub hl [1, 0] rfl) h
/-! CellCover$History.add(I)V -/
abbrev rm_X2_add : Room := { frames := 0, cells := 0, slots := 0, locals := 0 }
theorem in_X2_add_X2 : ∀ w ∈ wsX20, w ∈ wsX2_add := by decide +kernel
theorem lk_X2_add_15 : Cond.fieldLink RX2 15 "CellCover$History" "many" "I" ∈ wsX2_add := by decide +kernel
theorem lk_X2_add_9 : Cond.fieldLink RX2 9 "CellCover$History" "steps" "[I" ∈ wsX2_add := by decide +kernel
set_option maxHeartbeats 4000000 in
set_option maxRecDepth 100000 in
theorem w_X2_add_29 {p : Program} {l : Launch} {e : Env} {s : State} {m : MethodId} {args : Array Value} {below : List Frame} {meth : Method} {c : Code} {G : GT} {A : Nat → Prop} (F : CallFix p m c cX2_add 2 s args wsX2_add RX2) (hr : meth.sig.returnType = none) (hlk : meth.locks = false) (hK : va_K G.1 vwCl (tyl G) s) (out : St) : ∀ (S : St) (H : Heap) (locs : List Loc) (ls : Array Slot), Wd shC idsC G A S H → va_S A s.heap H locs → lv_has ls 2 [] → j_X2_add_29 S = some out → W p l e rm_X2_add s m args below meth c H locs 0 0 (MQ below (QV shC idsC G A out) args s 0 0 A) (F0 m 29 ls []) := by
  intro S H locs ls hW hS hl h
  unfold j_X2_add_29 at h
  exact rw_retv F hr hlk hK hW hS h dX2_add_29
set_option maxHeartbeats 4000000 in
set_option maxRecDepth 100000 in
theorem c_X2_add (l : Launch) (G : GT) (A : Nat → Prop) (a0 : Int32) (S : St) (out : St) (h : f_X2_add a0 S = some out) : Met l yX2_add wsX2_add rm_X2_add (va_Pc [.ref (G.2.2 7 0), .int a0] (WD shC idsC G A S)) (QV shC idsC G A out) 0 0 A := by
  refine Met.ofW (cc := cX2_add) (maxL := 2) (ret := none) (by decide) rfl ?_
  intro p e s m args below meth c s₁ B hml hv
  obtain ⟨rfl, hW, hK⟩ := hv
  have F : CallFix p m c cX2_add 2 s _ wsX2_add RX2 := ⟨B.exec, B.bytes, hml, findClass_of_methodNamed B.named, atoms_spec (ws := wsX2_add) B.pre⟩
  have hr := B.returns
  have hlk := B.notSynchronized
  have hS : va_S A s.heap s.heap [] := va_S.rf
  have hl := lv_entry ([.ref (G.2.2 7 0), .int a0]) (n := 2) (Nat.le_of_ble_eq_true rfl)
  rw [lg_entry_eq]
  generalize (lg_sl ([.ref (G.2.2 7 0), .int a0]) ++ List.replicate (2 - (lg_sl ([.ref (G.2.2 7 0), .int a0])).length) Slot.unset).toArray = ls at hl ⊢
  have hl : lv_has ls 2 [(0, .ref (G.2.2 7 0)), (1, .int a0)] := hl
  unfold f_X2_add at h
  refine lv_aload_n F.1 F.2.1 dX2_add_0 rfl (lv_at hl 0 rfl) ?_
  refine rw_get (q0 := 8) F hK hW idC_7 rfl rfl in_X2_add_X2 1 (by decide) lk_X2_add_15 rfl dX2_add_1 ?_
  refine lv_bipush (v := 88) F.1 F.2.1 dX2_add_4 (by decide) ?_
  refine lv_icmp_ge (tgt := 29) F.1 F.2.1 dX2_add_6 (by decide) (fun c_1 => ?_) (fun c_1 => ?_)
  · have h := (if_pos c_1).symm.trans h
    exact w_X2_add_29 F hr hlk hK out  _ _ _ _  hW hS (lv_sub hl [] rfl) h
  · have h := (if_neg c_1).symm.trans h
    refine lv_aload_n F.1 F.2.1 dX2_add_9 rfl (lv_at hl 0 rfl) ?_
    refine rw_get (q0 := 8) F hK hW idC_7 rfl rfl in_X2_add_X2 0 (by decide) lk_X2_add_9 rfl dX2_add_10 ?_
    refine lv_aload_n F.1 F.2.1 dX2_add_13 rfl (lv_at hl 0 rfl) ?_
    refine rw_get (q0 := 8) F hK hW idC_7 rfl rfl in_X2_add_X2 1 (by decide) lk_X2_add_15 rfl dX2_add_14 ?_
    refine lv_iload_n F.1 F.2.1 dX2_add_17 rfl (lv_at hl 1 rfl) ?_
    obtain ⟨b_2, h⟩ := gd_some h
    refine rw_iast ndC (q0 := 63) F hK hW hS idC_35 (fun _ => rfl) (ix_in b_2) dX2_add_18 (fun H locs S_3 eS_3 hW hS => ?_)
    have h := lt_n eS_3 h
    refine lv_aload_n F.1 F.2.1 dX2_add_19 rfl (lv_at hl 0 rfl) ?_
    refine lv_dup F.1 F.2.1 dX2_add_20 rfl ?_
    refine rw_get (q0 := 8) F hK hW idC_7 rfl rfl in_X2_add_X2 1 (by decide) lk_X2_add_15 rfl dX2_add_21 ?_
    refine lv_iconst (v := 1) F.1 F.2.1 dX2_add_24 (by decide) ?_
    refine lv_iadd F.1 F.2.1 dX2_add_25 ?_
    refine rw_put ndC (q0 := 8) (x := (S_3 7 0 1) + 1) F hK hW hS idC_7 rfl rfl in_X2_add_X2 tyX2 tyX2_ok nmX2 1 (by decide) lk_X2_add_15 rfl (ty := .int) (by decide +kernel) rfl rfl (Nat.le_of_ble_eq_true rfl) rfl dX2_add_26 (fun H locs S_4 eS_4 hW hS => ?_)
    have h := lt_n eS_4 h
    exact w_X2_add_29 F hr hlk hK out  _ _ _ _  hW hS (lv_sub hl [] rfl) h
/-! CellCover.noteChange(I)V -/
abbrev rm_X8_noteChange : Room := { frames := 1, cells := 0, slots := 0, locals := 21 }
theorem in_X8_noteChange_X8 : ∀ w ∈ wsX80, w ∈ wsX8_noteChange := by decide +kernel
theorem lk_X8_noteChange_61 : Cond.fieldLink RX8 61 "CellCover" "history" "LCellCover$History;" ∈ wsX8_noteChange := by decide +kernel
theorem lk_X8_noteChange_65 : Cond.fieldLink RX8 65 "CellCover" "covered" "Z" ∈ wsX8_noteChange := by decide +kernel
set_option maxHeartbeats 4000000 in
set_option maxRecDepth 100000 in
theorem c_X8_noteChange (l : Launch) (G : GT) (A : Nat → Prop) (a0 : Int32) (S : St) (out : St) (h : f_X8_noteChange a0 S = some out) : Met l yX8_noteChange wsX8_noteChange rm_X8_noteChange (va_Pc [.ref (G.2.2 0 0), .int a0] (WD shC idsC G A S)) (QV shC idsC G A out) 0 0 A := by
  refine Met.ofW (cc := cX8_noteChange) (maxL := 2) (ret := none) (by decide) rfl ?_
  intro p e s m args below meth c s₁ B hml hv
  obtain ⟨rfl, hW, hK⟩ := hv
  have F : CallFix p m c cX8_noteChange 2 s _ wsX8_noteChange RX8 := ⟨B.exec, B.bytes, hml, findClass_of_methodNamed B.named, atoms_spec (ws := wsX8_noteChange) B.pre⟩
  have hr := B.returns
  have hlk := B.notSynchronized
  have hS : va_S A s.heap s.heap [] := va_S.rf
  have hl := lv_entry ([.ref (G.2.2 0 0), .int a0]) (n := 2) (Nat.le_of_ble_eq_true rfl)
  rw [lg_entry_eq]
  generalize (lg_sl ([.ref (G.2.2 0 0), .int a0]) ++ List.replicate (2 - (lg_sl ([.ref (G.2.2 0 0), .int a0])).length) Slot.unset).toArray = ls at hl ⊢
  have hl : lv_has ls 2 [(0, .ref (G.2.2 0 0)), (1, .int a0)] := hl
  unfold f_X8_noteChange at h
  refine lv_aload_n F.1 F.2.1 dX8_noteChange_0 rfl (lv_at hl 0 rfl) ?_
  refine rw_get (q0 := 0) F hK hW idC_0 rfl rfl in_X8_noteChange_X8 7 (by decide) lk_X8_noteChange_61 rfl dX8_noteChange_1 ?_
  refine lv_iload_n F.1 F.2.1 dX8_noteChange_4 rfl (lv_at hl 1 rfl) ?_
  obtain ⟨q_1, hq_1, h⟩ := bv_some h
  refine rw_vv F hK hW hS [.int a0] (rest := []) (c_X2_add l G A a0 S q_1 hq_1) (cwV 1 F.2.2.2.2 gX8_noteChange_X2_add rfl rfl rfl (by decide +kernel) ⟨Nat.le_of_ble_eq_true rfl, Nat.le_of_ble_eq_true rfl⟩) (rw_recv (q0 := 8) hK hW idC_7 rfl rfl) rfl hl.1 rfl (Nat.le_of_ble_eq_true rfl) dX8_noteChange_5 (fun H locs hW hS => ?_)
  refine lv_aload_n F.1 F.2.1 dX8_noteChange_8 rfl (lv_at hl 0 rfl) ?_
  refine lv_iconst (v := 0) F.1 F.2.1 dX8_noteChange_9 (by decide) ?_
  refine rw_put ndC (q0 := 0) (x := 0) F hK hW hS idC_0 rfl rfl in_X8_noteChange_X8 tyX8 tyX8_ok nmX8 8 (by decide) lk_X8_noteChange_65 rfl (ty := .boolean) (by decide +kernel) (by decide) (by decide) (Nat.le_of_ble_eq_true rfl) rfl dX8_noteChange_10 (fun H locs S_3 eS_3 hW hS => ?_)
  have h := lt_n eS_3 h
  exact rw_retv F hr hlk hK hW hS h dX8_noteChange_13
/-! CellCover.noteNode(I)I -/
abbrev rm_X8_noteNode : Room := { frames := 2, cells := 0, slots := 0, locals := 44 }
theorem in_X8_noteNode_X8 : ∀ w ∈ wsX80, w ∈ wsX8_noteNode := by decide +kernel
theorem lk_X8_noteNode_12 : Cond.fieldLink RX8 12 "CellCover" "vertices" "LCellCover$Vertices;" ∈ wsX8_noteNode := by decide +kernel
theorem lk_X8_noteNode_19 : Cond.fieldLink RX8 19 "CellCover" "net" "LCellCover$Net;" ∈ wsX8_noteNode := by decide +kernel
set_option maxHeartbeats 4000000 in
set_option maxRecDepth 100000 in
theorem c_X8_noteNode (l : Launch) (G : GT) (A : Nat → Prop) (a0 : Int32) (S : St) (out : Int32 × St) (h : f_X8_noteNode a0 S = some out) : Met l yX8_noteNode wsX8_noteNode rm_X8_noteNode (va_Pc [.ref (G.2.2 0 0), .int a0] (WD shC idsC G A S)) (QI shC idsC G A out) 0 0 A := by
  refine Met.ofW (cc := cX8_noteNode) (maxL := 2) (ret := (some .int)) (by decide) rfl ?_
  intro p e s m args below meth c s₁ B hml hv
  obtain ⟨rfl, hW, hK⟩ := hv
  have F : CallFix p m c cX8_noteNode 2 s _ wsX8_noteNode RX8 := ⟨B.exec, B.bytes, hml, findClass_of_methodNamed B.named, atoms_spec (ws := wsX8_noteNode) B.pre⟩
  have hr := B.returns
  have hlk := B.notSynchronized
  have hS : va_S A s.heap s.heap [] := va_S.rf
  have hl := lv_entry ([.ref (G.2.2 0 0), .int a0]) (n := 2) (Nat.le_of_ble_eq_true rfl)
  rw [lg_entry_eq]
  generalize (lg_sl ([.ref (G.2.2 0 0), .int a0]) ++ List.replicate (2 - (lg_sl ([.ref (G.2.2 0 0), .int a0])).length) Slot.unset).toArray = ls at hl ⊢
  have hl : lv_has ls 2 [(0, .ref (G.2.2 0 0)), (1, .int a0)] := hl
  unfold f_X8_noteNode at h
  refine lv_aload_n F.1 F.2.1 dX8_noteNode_0 rfl (lv_at hl 0 rfl) ?_
  refine rw_get (q0 := 0) F hK hW idC_0 rfl rfl in_X8_noteNode_X8 0 (by decide) lk_X8_noteNode_12 rfl dX8_noteNode_1 ?_
  refine lv_aload_n F.1 F.2.1 dX8_noteNode_4 rfl (lv_at hl 0 rfl) ?_
  refine rw_get (q0 := 0) F hK hW idC_0 rfl rfl in_X8_noteNode_X8 1 (by decide) lk_X8_noteNode_19 rfl dX8_noteNode_5 ?_
  obtain ⟨q_1, hq_1, h⟩ := bv_some h
  refine rw_vv F hK hW hS [.ref (G.2.2 2 0)] (rest := []) (c_X7_mark l G A  S q_1 hq_1) (cwV 1 F.2.2.2.2 gX8_noteNode_X7_mark rfl rfl rfl (by decide +kernel) ⟨Nat.le_of_ble_eq_true rfl, Nat.le_of_ble_eq_true rfl⟩) (rw_recv (q0 := 1) hK hW idC_1 rfl rfl) rfl hl.1 rfl (Nat.le_of_ble_eq_true rfl) dX8_noteNode_8 (fun H locs hW hS => ?_)
  refine lv_aload_n F.1 F.2.1 dX8_noteNode_11 rfl (lv_at hl 0 rfl) ?_
  refine lv_iconst (v := 0) F.1 F.2.1 dX8_noteNode_12 (by decide) ?_
  obtain ⟨q_3, hq_3, h⟩ := bv_some h
  refine rw_vv F hK hW hS [.int 0] (rest := []) (c_X8_noteChange l G A 0 q_1 q_3 hq_3) (cwV 1 F.2.2.2.2 gX8_noteNode_X8_noteChange rfl rfl rfl (by decide +kernel) ⟨Nat.le_of_ble_eq_true rfl, Nat.le_of_ble_eq_true rfl⟩) (rw_recv (q0 := 0) hK hW idC_0 rfl rfl) rfl hl.1 rfl (Nat.le_of_ble_eq_true rfl) dX8_noteNode_13 (fun H locs hW hS => ?_)
  refine lv_iload_n F.1 F.2.1 dX8_noteNode_16 rfl (lv_at hl 1 rfl) ?_
  exact rw_ret F hr hlk hK hW hS h dX8_noteNode_17
/-! CellCover.input()I -/
abbrev rm_X8_input : Room := { frames := 3, cells := 0, slots := 0, locals := 65 }
theorem in_X8_input_X8 : ∀ w ∈ wsX80, w ∈ wsX8_input := by decide +kernel
theorem in_X8_input_X5 : ∀ w ∈ wsX50, w ∈ wsX8_input := by decide +kernel
theorem in_X8_input_X7 : ∀ w ∈ wsX70, w ∈ wsX8_input := by decide +kernel
theorem lk_X8_input_19 : Cond.fieldLink RX8 19 "CellCover" "net" "LCellCover$Net;" ∈ wsX8_input := by decide +kernel
theorem lk_X8_input_69 : Cond.fieldLink RX8 69 "CellCover$Net" "nodes" "I" ∈ wsX8_input := by decide +kernel
theorem lk_X8_input_12 : Cond.fieldLink RX8 12 "CellCover" "vertices" "LCellCover$Vertices;" ∈ wsX8_input := by decide +kernel
theorem lk_X8_input_73 : Cond.fieldLink RX8 73 "CellCover$Vertices" "many" "I" ∈ wsX8_input := by decide +kernel
set_option maxHeartbeats 4000000 in
set_option maxRecDepth 100000 in
theorem c_X8_input (l : Launch) (G : GT) (A : Nat → Prop) (S : St) (out : Int32 × St) (h : f_X8_input S = some out) : Met l yX8_input wsX8_input rm_X8_input (va_Pc [.ref (G.2.2 0 0)] (WD shC idsC G A S)) (QI shC idsC G A out) 0 0 A := by
  refine Met.ofW (cc := cX8_input) (maxL := 3) (ret := (some .int)) (by decide) rfl ?_
  intro p e s m args below meth c s₁ B hml hv
  obtain ⟨rfl, hW, hK⟩ := hv
  have F : CallFix p m c cX8_input 3 s _ wsX8_input RX8 := ⟨B.exec, B.bytes, hml, findClass_of_methodNamed B.named, atoms_spec (ws := wsX8_input) B.pre⟩
  have hr := B.returns
  have hlk := B.notSynchronized
  have hS : va_S A s.heap s.heap [] := va_S.rf
  have hl := lv_entry ([.ref (G.2.2 0 0)]) (n := 3) (Nat.le_of_ble_eq_true rfl)
  rw [lg_entry_eq]
  generalize (lg_sl ([.ref (G.2.2 0 0)]) ++ List.replicate (3 - (lg_sl ([.ref (G.2.2 0 0)])).length) Slot.unset).toArray = ls at hl ⊢
  have hl : lv_has ls 3 [(0, .ref (G.2.2 0 0))] := hl
  unfold f_X8_input at h
  refine lv_aload_n F.1 F.2.1 dX8_input_0 rfl (lv_at hl 0 rfl) ?_
  refine rw_get (q0 := 0) F hK hW idC_0 rfl rfl in_X8_input_X8 1 (by decide) lk_X8_input_19 rfl dX8_input_1 ?_
  refine rw_get (q0 := 2) F hK hW idC_2 rfl rfl in_X8_input_X5 8 (by decide) lk_X8_input_69 rfl dX8_input_4 ?_
  refine lv_bipush (v := 40) F.1 F.2.1 dX8_input_7 (by decide) ?_
  refine lv_icmp_lt (tgt := 15) F.1 F.2.1 dX8_input_9 (by decide) (fun c_1 => ?_) (fun c_1 => ?_)
  · have h := (if_pos c_1).symm.trans h
    refine lv_aload_n F.1 F.2.1 dX8_input_15 rfl (lv_at hl 0 rfl) ?_
    refine rw_get (q0 := 0) F hK hW idC_0 rfl rfl in_X8_input_X8 0 (by decide) lk_X8_input_12 rfl dX8_input_16 ?_
    refine rw_get (q0 := 1) F hK hW idC_1 rfl rfl in_X8_input_X7 6 (by decide) lk_X8_input_73 rfl dX8_input_19 ?_
    refine lv_topi (fun v_2 ev_2 => ?_)
    have h := lt_n ev_2 h
    refine lv_istore_n (lv' := [(1, .int v_2), (0, .ref (G.2.2 0 0))]) F.1 F.2.1 dX8_input_22 rfl hl (by decide) rfl (fun ls hl => ?_)
    refine lv_aload_n F.1 F.2.1 dX8_input_23 rfl (lv_at hl 1 rfl) ?_
    refine rw_get (q0 := 0) F hK hW idC_0 rfl rfl in_X8_input_X8 0 (by decide) lk_X8_input_12 rfl dX8_input_24 ?_
    refine lv_iconst (v := 0) F.1 F.2.1 dX8_input_27 (by decide) ?_
    refine lv_bipush (v := -4) F.1 F.2.1 dX8_input_28 (by decide) ?_
    refine lv_bipush (v := -4) F.1 F.2.1 dX8_input_30 (by decide) ?_
    obtain ⟨r_4, S_5, hq_3, h⟩ := bi_some h
    refine rw_vi F hK hW hS [.int 0, .int ((-4)), .int ((-4))] (rest := []) (c_X7_add l G A 0 ((-4)) ((-4)) S (r_4, S_5) hq_3) (cwV 3 F.2.2.2.2 gX8_input_X7_add rfl rfl rfl (by decide +kernel) ⟨Nat.le_of_ble_eq_true rfl, Nat.le_of_ble_eq_true rfl⟩) (rw_recv (q0 := 1) hK hW idC_1 rfl rfl) rfl hl.1 rfl (Nat.le_of_ble_eq_true rfl) dX8_input_32 (fun H locs hW hS => ?_)
    refine lv_istore_n (lv' := [(2, .int r_4), (1, .int v_2), (0, .ref (G.2.2 0 0))]) F.1 F.2.1 dX8_input_35 rfl hl (by decide) rfl (fun ls hl => ?_)
    refine lv_aload_n F.1 F.2.1 dX8_input_36 rfl (lv_at hl 2 rfl) ?_
    refine lv_aload_n F.1 F.2.1 dX8_input_37 rfl (lv_at hl 2 rfl) ?_
    refine rw_get (q0 := 0) F hK hW idC_0 rfl rfl in_X8_input_X8 1 (by decide) lk_X8_input_19 rfl dX8_input_38 ?_
    refine lv_iload_n F.1 F.2.1 dX8_input_41 rfl (lv_at hl 1 rfl) ?_
    refine lv_iload_n F.1 F.2.1 dX8_input_42 rfl (lv_at hl 0 rfl) ?_
    obtain ⟨r_7, S_8, hq_6, h⟩ := bi_some h
    refine rw_vi F hK hW hS [.int v_2, .int r_4] (rest := [.ref (G.2.2 0 0)]) (c_X5_addInput l G A v_2 r_4 S_5 (r_7, S_8) hq_6) (cwV 2 F.2.2.2.2 gX8_input_X5_addInput rfl rfl rfl (by decide +kernel) ⟨Nat.le_of_ble_eq_true rfl, Nat.le_of_ble_eq_true rfl⟩) (rw_recv (q0 := 2) hK hW idC_2 rfl rfl) rfl hl.1 rfl (Nat.le_of_ble_eq_true rfl) dX8_input_43 (fun H locs hW hS => ?_)
    obtain ⟨r_10, S_11, hq_9, h⟩ := bi_some h
    refine rw_vi F hK hW hS [.int r_7] (rest := []) (c_X8_noteNode l G A r_7 S_8 (r_10, S_11) hq_9) (cwV 1 F.2.2.2.2 gX8_input_X8_noteNode rfl rfl rfl (by decide +kernel) ⟨Nat.le_of_ble_eq_true rfl, Nat.le_of_ble_eq_true rfl⟩) (rw_recv (q0 := 0) hK hW idC_0 rfl rfl) rfl hl.1 rfl (Nat.le_of_ble_eq_true rfl) dX8_input_46 (fun H locs hW hS => ?_)
    exact rw_ret F hr hlk hK hW hS h dX8_input_49
  · have h := (if_neg c_1).symm.trans h
    refine lv_bipush (v := -3) F.1 F.2.1 dX8_input_12 (by decide) ?_
    exact rw_ret F hr hlk hK hW hS h dX8_input_14
/-! CellCover$Net.hasNode(I)Z -/
abbrev rm_X5_hasNode : Room := { frames := 0, cells := 0, slots := 0, locals := 0 }
theorem in_X5_hasNode_X5 : ∀ w ∈ wsX50, w ∈ wsX5_hasNode := by decide +kernel
theorem lk_X5_hasNode_36 : Cond.fieldLink RX5 36 "CellCover$Net" "nodes" "I" ∈ wsX5_hasNode := by decide +kernel
set_option maxHeartbeats 4000000 in
set_option maxRecDepth 100000 in
theorem w_X5_hasNode_17 {p : Program} {l : Launch} {e : Env} {s : State} {m : MethodId} {args : Array Value} {below : List Frame} {meth : Method} {c : Code} {G : GT} {A : Nat → Prop} (F : CallFix p m c cX5_hasNode 2 s args wsX5_hasNode RX5) (hr : meth.sig.returnType = (some .boolean)) (hlk : meth.locks = false) (hK : va_K G.1 vwCl (tyl G) s) (out : Int32 × St) : ∀ (S : St) (y0 : Int32) (H : Heap) (locs : List Loc) (ls : Array Slot), Wd shC idsC G A S H → va_S A s.heap H locs → lv_has ls 2 [] → j_X5_hasNode_17 S y0 = some out → W p l e rm_X5_hasNode s m args below meth c H locs 0 0 (MQ below (QI shC idsC G A out) args s 0 0 A) (F0 m 17 ls [.int y0]) := by
  intro S y0 H locs ls hW hS hl h
  unfold j_X5_hasNode_17 at h
  obtain ⟨b_2, h⟩ := gd_some h
  exact rw_retz F hr hlk hK hW hS b_2 h dX5_hasNode_17
set_option maxHeartbeats 4000000 in
set_option maxRecDepth 100000 in
theorem w_X5_hasNode_16 {p : Program} {l : Launch} {e : Env} {s : State} {m : MethodId} {args : Array Value} {below : List Frame} {meth : Method} {c : Code} {G : GT} {A : Nat → Prop} (F : CallFix p m c cX5_hasNode 2 s args wsX5_hasNode RX5) (hr : meth.sig.returnType = (some .boolean)) (hlk : meth.locks = false) (hK : va_K G.1 vwCl (tyl G) s) (out : Int32 × St) : ∀ (S : St) (H : Heap) (locs : List Loc) (ls : Array Slot), Wd shC idsC G A S H → va_S A s.heap H locs → lv_has ls 2 [] → j_X5_hasNode_16 S = some out → W p l e rm_X5_hasNode s m args below meth c H locs 0 0 (MQ below (QI shC idsC G A out) args s 0 0 A) (F0 m 16 ls []) := by
  intro S H locs ls hW hS hl h
  unfold j_X5_hasNode_16 at h
  refine lv_iconst (v := 0) F.1 F.2.1 dX5_hasNode_16 (by decide) ?_
  exact w_X5_hasNode_17 F hr hlk hK out  _ _ _ _ _  hW hS hl h
set_option maxHeartbeats 4000000 in
set_option maxRecDepth 100000 in
theorem c_X5_hasNode (l : Launch) (G : GT) (A : Nat → Prop) (a0 : Int32) (S : St) (out : Int32 × St) (h : f_X5_hasNode a0 S = some out) : Met l yX5_hasNode wsX5_hasNode rm_X5_hasNode (va_Pc [.ref (G.2.2 2 0), .int a0] (WD shC idsC G A S)) (QI shC idsC G A out) 0 0 A := by
  refine Met.ofW (cc := cX5_hasNode) (maxL := 2) (ret := (some .boolean)) (by decide) rfl ?_
  intro p e s m args below meth c s₁ B hml hv
  obtain ⟨rfl, hW, hK⟩ := hv
  have F : CallFix p m c cX5_hasNode 2 s _ wsX5_hasNode RX5 := ⟨B.exec, B.bytes, hml, findClass_of_methodNamed B.named, atoms_spec (ws := wsX5_hasNode) B.pre⟩
  have hr := B.returns
  have hlk := B.notSynchronized
  have hS : va_S A s.heap s.heap [] := va_S.rf
  have hl := lv_entry ([.ref (G.2.2 2 0), .int a0]) (n := 2) (Nat.le_of_ble_eq_true rfl)
  rw [lg_entry_eq]
  generalize (lg_sl ([.ref (G.2.2 2 0), .int a0]) ++ List.replicate (2 - (lg_sl ([.ref (G.2.2 2 0), .int a0])).length) Slot.unset).toArray = ls at hl ⊢
  have hl : lv_has ls 2 [(0, .ref (G.2.2 2 0)), (1, .int a0)] := hl
  unfold f_X5_hasNode at h
  refine lv_iload_n F.1 F.2.1 dX5_hasNode_0 rfl (lv_at hl 1 rfl) ?_
  refine lv_if_lt (tgt := 16) F.1 F.2.1 dX5_hasNode_1 (by decide) (fun c_1 => ?_) (fun c_1 => ?_)
  · have h := (if_pos c_1).symm.trans h
    exact w_X5_hasNode_16 F hr hlk hK out  _ _ _ _  hW hS (lv_sub hl [] rfl) h
  · have h := (if_neg c_1).symm.trans h
    refine lv_iload_n F.1 F.2.1 dX5_hasNode_4 rfl (lv_at hl 1 rfl) ?_
    refine lv_aload_n F.1 F.2.1 dX5_hasNode_5 rfl (lv_at hl 0 rfl) ?_
    refine rw_get (q0 := 2) F hK hW idC_2 rfl rfl in_X5_hasNode_X5 8 (by decide) lk_X5_hasNode_36 rfl dX5_hasNode_6 ?_
    refine lv_icmp_ge (tgt := 16) F.1 F.2.1 dX5_hasNode_9 (by decide) (fun c_3 => ?_) (fun c_3 => ?_)
    · have h := (if_pos c_3).symm.trans h
      exact w_X5_hasNode_16 F hr hlk hK out  _ _ _ _  hW hS (lv_sub hl [] rfl) h
    · have h := (if_neg c_3).symm.trans h
      refine lv_iconst (v := 1) F.1 F.2.1 dX5_hasNode_12 (by decide) ?_
      refine lv_goto (tgt := 17) F.1 F.2.1 dX5_hasNode_13 (by decide) ?_
      exact w_X5_hasNode_17 F hr hlk hK out  _ _ _ _ _  hW hS (lv_sub hl [] rfl) h
/-! CellCover$Vertices.inverseOf(I)I -/
abbrev rm_X7_inverseOf : Room := { frames := 1, cells := 0, slots := 0, locals := 24 }
theorem in_X7_inverseOf_X7 : ∀ w ∈ wsX70, w ∈ wsX7_inverseOf := by decide +kernel
theorem lk_X7_inverseOf_9 : Cond.fieldLink RX7 9 "CellCover$Vertices" "form" "[I" ∈ wsX7_inverseOf := by decide +kernel
theorem lk_X7_inverseOf_31 : Cond.fieldLink RX7 31 "CellCover$Vertices" "many" "I" ∈ wsX7_inverseOf := by decide +kernel
theorem lk_X7_inverseOf_15 : Cond.fieldLink RX7 15 "CellCover$Vertices" "first" "[I" ∈ wsX7_inverseOf := by decide +kernel
set_option maxHeartbeats 4000000 in
set_option maxRecDepth 100000 in
theorem w_X7_inverseOf_51 {p : Program} {l : Launch} {e : Env} {s : State} {m : MethodId} {args : Array Value} {below : List Frame} {meth : Method} {c : Code} {G : GT} {A : Nat → Prop} (F : CallFix p m c cX7_inverseOf 3 s args wsX7_inverseOf RX7) (hr : meth.sig.returnType = (some .int)) (hlk : meth.locks = false) (hK : va_K G.1 vwCl (tyl G) s) (out : Int32 × St) (kb : St → Int32 → Int32 → Option (Int32 × St)) (Kb : ∀ (S : St) (x1 : Int32) (x2 : Int32) (H : Heap) (locs : List Loc) (ls : Array Slot), Wd shC idsC G A S H → va_S A s.heap H locs → lv_has ls 3 [(0, .ref (G.2.2 1 0)), (1, .int x1), (2, .int x2)] → kb S x1 x2 = some out → W p l e rm_X7_inverseOf s m args below meth c H locs 0 0 (MQ below (QI shC idsC G A out) args s 0 0 A) (F0 m 21 ls [])) : ∀ (S : St) (x1 : Int32) (x2 : Int32) (H : Heap) (locs : List Loc) (ls : Array Slot), Wd shC idsC G A S H → va_S A s.heap H locs → lv_has ls 3 [(0, .ref (G.2.2 1 0)), (1, .int x1), (2, .int x2)] → j_X7_inverseOf_51 kb S x1 x2 = some out → W p l e rm_X7_inverseOf s m args below meth c H locs 0 0 (MQ below (QI shC idsC G A out) args s 0 0 A) (F0 m 51 ls []) := by
  intro S x1 x2 H locs ls hW hS hl h
  unfold j_X7_inverseOf_51 at h
  obtain ⟨v_12, ev_12⟩ : ∃ y : Int32, y = x2 + 1 := ⟨_, rfl⟩
  have h := lt_n ev_12 h
  refine lv_iinc (v := v_12) (lv' := [(2, .int v_12), (0, .ref (G.2.2 1 0)), (1, .int x1)]) F.1 F.2.1 dX7_inverseOf_51 hl (k := 2) rfl (by rw [ev_12]; rfl) (by decide) rfl (fun ls hl => ?_)
  refine lv_goto (tgt := 21) F.1 F.2.1 dX7_inverseOf_54 (by decide) ?_
  exact Kb _ _ _ _ _ _  hW hS (lv_sub hl [1, 2, 0] rfl) h
set_option maxHeartbeats 4000000 in
set_option maxRecDepth 100000 in
theorem w_X7_inverseOf_21 {p : Program} {l : Launch} {e : Env} {s : State} {m : MethodId} {args : Array Value} {below : List Frame} {meth : Method} {c : Code} {G : GT} {A : Nat → Prop} (F : CallFix p m c cX7_inverseOf 3 s args wsX7_inverseOf RX7) (hr : meth.sig.returnType = (some .int)) (hlk : meth.locks = false) (hK : va_K G.1 vwCl (tyl G) s) (out : Int32 × St) : ∀ n : Nat, ∀ (S : St) (x1 : Int32) (x2 : Int32) (H : Heap) (locs : List Loc) (ls : Array Slot), Wd shC idsC G A S H → va_S A s.heap H locs → lv_has ls 3 [(0, .ref (G.2.2 1 0)), (1, .int x1), (2, .int x2)] → l_X7_inverseOf_21 n S x1 x2 = some out → W p l e rm_X7_inverseOf s m args below meth c H locs 0 0 (MQ below (QI shC idsC G A out) args s 0 0 A) (F0 m 21 ls []) := by
  intro n
  induction n with
  | zero =>
    intro S x1 x2 H locs ls hW hS hl h
    cases h
  | succ n Kb =>
    generalize hkb : l_X7_inverseOf_21 n = kb at Kb
    intro S x1 x2 H locs ls hW hS hl h
    rw [show l_X7_inverseOf_21 (n + 1) = b_X7_inverseOf_21 (l_X7_inverseOf_21 n) from rfl, hkb] at h
    unfold b_X7_inverseOf_21 at h
    refine lv_iload_n F.1 F.2.1 dX7_inverseOf_21 rfl (lv_at hl 2 rfl) ?_
    refine lv_aload_n F.1 F.2.1 dX7_inverseOf_22 rfl (lv_at hl 0 rfl) ?_
    refine rw_get (q0 := 1) F hK hW idC_1 rfl rfl in_X7_inverseOf_X7 6 (by decide) lk_X7_inverseOf_31 rfl dX7_inverseOf_23 ?_
    refine lv_icmp_ge (tgt := 57) F.1 F.2.1 dX7_inverseOf_26 (by decide) (fun c_5 => ?_) (fun c_5 => ?_)
    · have h := (if_pos c_5).symm.trans h
      refine lv_aload_n F.1 F.2.1 dX7_inverseOf_57 rfl (lv_at hl 0 rfl) ?_
      refine lv_iconst (v := 1) F.1 F.2.1 dX7_inverseOf_58 (by decide) ?_
      refine lv_iload_n F.1 F.2.1 dX7_inverseOf_59 rfl (lv_at hl 1 rfl) ?_
      refine lv_bipush (v := -4) F.1 F.2.1 dX7_inverseOf_60 (by decide) ?_
      obtain ⟨r_7, S_8, hq_6, h⟩ := bi_some h
      refine rw_vi F hK hW hS [.int 1, .int x1, .int ((-4))] (rest := []) (c_X7_add l G A 1 x1 ((-4)) S (r_7, S_8) hq_6) (cwV 3 F.2.2.2.2 gX7_inverseOf_X7_add rfl rfl rfl (by decide +kernel) ⟨Nat.le_of_ble_eq_true rfl, Nat.le_of_ble_eq_true rfl⟩) (rw_recv (q0 := 1) hK hW idC_1 rfl rfl) rfl hl.1 rfl (Nat.le_of_ble_eq_true rfl) dX7_inverseOf_62 (fun H locs hW hS => ?_)
      exact rw_ret F hr hlk hK hW hS h dX7_inverseOf_65
    · have h := (if_neg c_5).symm.trans h
      refine lv_aload_n F.1 F.2.1 dX7_inverseOf_29 rfl (lv_at hl 0 rfl) ?_
      refine rw_get (q0 := 1) F hK hW idC_1 rfl rfl in_X7_inverseOf_X7 0 (by decide) lk_X7_inverseOf_9 rfl dX7_inverseOf_30 ?_
      refine lv_iload_n F.1 F.2.1 dX7_inverseOf_33 rfl (lv_at hl 2 rfl) ?_
      obtain ⟨b_9, h⟩ := gd_some h
      refine rw_iald (q0 := 29) F hK hW idC_9 (fun _ => rfl) (ix_in b_9) dX7_inverseOf_34 ?_
      refine lv_topi (fun v_10 ev_10 => ?_)
      have h := lt_n ev_10 h
      refine lv_iconst (v := 1) F.1 F.2.1 dX7_inverseOf_35 (by decide) ?_
      refine lv_icmp_ne (tgt := 51) F.1 F.2.1 dX7_inverseOf_36 (by decide) (fun c_11 => ?_) (fun c_11 => ?_)
      · have h := (if_neg c_11).symm.trans h
        exact w_X7_inverseOf_51 F hr hlk hK out kb Kb _ _ _ _ _ _  hW hS hl h
      · have h := (if_pos c_11).symm.trans h
        refine lv_aload_n F.1 F.2.1 dX7_inverseOf_39 rfl (lv_at hl 0 rfl) ?_
        refine rw_get (q0 := 1) F hK hW idC_1 rfl rfl in_X7_inverseOf_X7 1 (by decide) lk_X7_inverseOf_15 rfl dX7_inverseOf_40 ?_
        refine lv_iload_n F.1 F.2.1 dX7_inverseOf_43 rfl (lv_at hl 2 rfl) ?_
        obtain ⟨b_13, h⟩ := gd_some h
        refine rw_iald (q0 := 30) F hK hW idC_10 (fun _ => rfl) (ix_in b_13) dX7_inverseOf_44 ?_
        refine lv_topi (fun v_14 ev_14 => ?_)
        have h := lt_n ev_14 h
        refine lv_iload_n F.1 F.2.1 dX7_inverseOf_45 rfl (lv_at hl 1 rfl) ?_
        refine lv_icmp_ne (tgt := 51) F.1 F.2.1 dX7_inverseOf_46 (by decide) (fun c_15 => ?_) (fun c_15 => ?_)
        · have h := (if_neg c_15).symm.trans h
          exact w_X7_inverseOf_51 F hr hlk hK out kb Kb _ _ _ _ _ _  hW hS hl h
        · have h := (if_pos c_15).symm.trans h
          refine lv_iload_n F.1 F.2.1 dX7_inverseOf_49 rfl (lv_at hl 2 rfl) ?_
          exact rw_ret F hr hlk hK hW hS h dX7_inverseOf_50
set_option maxHeartbeats 4000000 in
set_option maxRecDepth 100000 in
theorem c_X7_inverseOf (l : Launch) (G : GT) (A : Nat → Prop) (a0 : Int32) (S : St) (out : Int32 × St) (h : f_X7_inverseOf a0 S = some out) : Met l yX7_inverseOf wsX7_inverseOf rm_X7_inverseOf (va_Pc [.ref (G.2.2 1 0), .int a0] (WD shC idsC G A S)) (QI shC idsC G A out) 0 0 A := by
  refine Met.ofW (cc := cX7_inverseOf) (maxL := 3) (ret := (some .int)) (by decide) rfl ?_
  intro p e s m args below meth c s₁ B hml hv
  obtain ⟨rfl, hW, hK⟩ := hv
  have F : CallFix p m c cX7_inverseOf 3 s _ wsX7_inverseOf RX7 := ⟨B.exec, B.bytes, hml, findClass_of_methodNamed B.named, atoms_spec (ws := wsX7_inverseOf) B.pre⟩
  have hr := B.returns
  have hlk := B.notSynchronized
  have hS : va_S A s.heap s.heap [] := va_S.rf
  have hl := lv_entry ([.ref (G.2.2 1 0), .int a0]) (n := 3) (Nat.le_of_ble_eq_true rfl)
  rw [lg_entry_eq]
  generalize (lg_sl ([.ref (G.2.2 1 0), .int a0]) ++ List.replicate (3 - (lg_sl ([.ref (G.2.2 1 0), .int a0])).length) Slot.unset).toArray = ls at hl ⊢
  have hl : lv_has ls 3 [(0, .ref (G.2.2 1 0)), (1, .int a0)] := hl
  unfold f_X7_inverseOf at h
  refine lv_aload_n F.1 F.2.1 dX7_inverseOf_0 rfl (lv_at hl 0 rfl) ?_
  refine rw_get (q0 := 1) F hK hW idC_1 rfl rfl in_X7_inverseOf_X7 0 (by decide) lk_X7_inverseOf_9 rfl dX7_inverseOf_1 ?_
  refine lv_iload_n F.1 F.2.1 dX7_inverseOf_4 rfl (lv_at hl 1 rfl) ?_
  obtain ⟨b_1, h⟩ := gd_some h
  refine rw_iald (q0 := 29) F hK hW idC_9 (fun _ => rfl) (ix_in b_1) dX7_inverseOf_5 ?_
  refine lv_topi (fun v_2 ev_2 => ?_)
  have h := lt_n ev_2 h
  refine lv_iconst (v := 1) F.1 F.2.1 dX7_inverseOf_6 (by decide) ?_
  refine lv_icmp_ne (tgt := 17) F.1 F.2.1 dX7_inverseOf_7 (by decide) (fun c_3 => ?_) (fun c_3 => ?_)
  · have h := (if_neg c_3).symm.trans h
    refine lv_iload_n F.1 F.2.1 dX7_inverseOf_17 rfl (lv_at hl 1 rfl) ?_
    refine lv_iconst (v := 1) F.1 F.2.1 dX7_inverseOf_18 (by decide) ?_
    refine lv_iadd F.1 F.2.1 dX7_inverseOf_19 ?_
    refine lv_topi (fun v_4 ev_4 => ?_)
    have h := lt_n ev_4 h
    refine lv_istore_n (lv' := [(2, .int v_4), (0, .ref (G.2.2 1 0)), (1, .int a0)]) F.1 F.2.1 dX7_inverseOf_20 rfl hl (by decide) rfl (fun ls hl => ?_)
    refine w_X7_inverseOf_21 F hr hlk hK out   5000 _ _ _ _ _ _  hW hS (lv_sub hl [1, 2, 0] rfl) h
  · have h := (if_pos c_3).symm.trans h
    refine lv_aload_n F.1 F.2.1 dX7_inverseOf_10 rfl (lv_at hl 0 rfl) ?_
    refine rw_get (q0 := 1) F hK hW idC_1 rfl rfl in_X7_inverseOf_X7 1 (by decide) lk_X7_inverseOf_15 rfl dX7_inverseOf_11 ?_
    refine lv_iload_n F.1 F.2.1 dX7_inverseOf_14 rfl (lv_at hl 1 rfl) ?_
    obtain ⟨b_16, h⟩ := gd_some h
    refine rw_iald (q0 := 30) F hK hW idC_10 (fun _ => rfl) (ix_in b_16) dX7_inverseOf_15 ?_
    refine lv_topi (fun v_17 ev_17 => ?_)
    have h := lt_n ev_17 h
    exact rw_ret F hr hlk hK hW hS h dX7_inverseOf_16
/-! CellCover$Vertices.isOf(III)Z -/
abbrev rm_X7_isOf : Room := { frames := 0, cells := 0, slots := 0, locals := 0 }
theorem in_X7_isOf_X7 : ∀ w ∈ wsX70, w ∈ wsX7_isOf := by decide +kernel
theorem lk_X7_isOf_15 : Cond.fieldLink RX7 15 "CellCover$Vertices" "first" "[I" ∈ wsX7_isOf := by decide +kernel
theorem lk_X7_isOf_18 : Cond.fieldLink RX7 18 "CellCover$Vertices" "second" "[I" ∈ wsX7_isOf := by decide +kernel
set_option maxHeartbeats 4000000 in
set_option maxRecDepth 100000 in
theorem w_X7_isOf_45 {p : Program} {l : Launch} {e : Env} {s : State} {m : MethodId} {args : Array Value} {below : List Frame} {meth : Method} {c : Code} {G : GT} {A : Nat → Prop} (F : CallFix p m c cX7_isOf 4 s args wsX7_isOf RX7) (hr : meth.sig.returnType = (some .boolean)) (hlk : meth.locks = false) (hK : va_K G.1 vwCl (tyl G) s) (out : Int32 × St) : ∀ (S : St) (y0 : Int32) (H : Heap) (locs : List Loc) (ls : Array Slot), Wd shC idsC G A S H → va_S A s.heap H locs → lv_has ls 4 [] → j_X7_isOf_45 S y0 = some out → W p l e rm_X7_isOf s m args below meth c H locs 0 0 (MQ below (QI shC idsC G A out) args s 0 0 A) (F0 m 45 ls [.int y0]) := by
  intro S y0 H locs ls hW hS hl h
  unfold j_X7_isOf_45 at h
  obtain ⟨b_7, h⟩ := gd_some h
  exact rw_retz F hr hlk hK hW hS b_7 h dX7_isOf_45
set_option maxHeartbeats 4000000 in
set_option maxRecDepth 100000 in
theorem w_X7_isOf_44 {p : Program} {l : Launch} {e : Env} {s : State} {m : MethodId} {args : Array Value} {below : List Frame} {meth : Method} {c : Code} {G : GT} {A : Nat → Prop} (F : CallFix p m c cX7_isOf 4 s args wsX7_isOf RX7) (hr : meth.sig.returnType = (some .boolean)) (hlk : meth.locks = false) (hK : va_K G.1 vwCl (tyl G) s) (out : Int32 × St) : ∀ (S : St) (H : Heap) (locs : List Loc) (ls : Array Slot), Wd shC idsC G A S H → va_S A s.heap H locs → lv_has ls 4 [] → j_X7_isOf_44 S = some out → W p l e rm_X7_isOf s m args below meth c H locs 0 0 (MQ below (QI shC idsC G A out) args s 0 0 A) (F0 m 44 ls []) := by
  intro S H locs ls hW hS hl h
  unfold j_X7_isOf_44 at h
  refine lv_iconst (v := 0) F.1 F.2.1 dX7_isOf_44 (by decide) ?_
  exact w_X7_isOf_45 F hr hlk hK out  _ _ _ _ _  hW hS hl h
set_option maxHeartbeats 4000000 in
set_option maxRecDepth 100000 in
theorem w_X7_isOf_40 {p : Program} {l : Launch} {e : Env} {s : State} {m : MethodId} {args : Array Value} {below : List Frame} {meth : Method} {c : Code} {G : GT} {A : Nat → Prop} (F : CallFix p m c cX7_isOf 4 s args wsX7_isOf RX7) (hr : meth.sig.returnType = (some .boolean)) (hlk : meth.locks = false) (hK : va_K G.1 vwCl (tyl G) s) (out : Int32 × St) : ∀ (S : St) (H : Heap) (locs : List Loc) (ls : Array Slot), Wd shC idsC G A S H → va_S A s.heap H locs → lv_has ls 4 [] → j_X7_isOf_40 S = some out → W p l e rm_X7_isOf s m args below meth c H locs 0 0 (MQ below (QI shC idsC G A out) args s 0 0 A) (F0 m 40 ls []) := by
  intro S H locs ls hW hS hl h
  unfold j_X7_isOf_40 at h
  refine lv_iconst (v := 1) F.1 F.2.1 dX7_isOf_40 (by decide) ?_
  refine lv_goto (tgt := 45) F.1 F.2.1 dX7_isOf_41 (by decide) ?_
  exact w_X7_isOf_45 F hr hlk hK out  _ _ _ _ _  hW hS hl h
set_option maxHeartbeats 4000000 in
set_option maxRecDepth 100000 in
theorem w_X7_isOf_20 {p : Program} {l : Launch} {e : Env} {s : State} {m : MethodId} {args : Array Value} {below : List Frame} {meth : Method} {c : Code} {G : GT} {A : Nat → Prop} (F : CallFix p m c cX7_isOf 4 s args wsX7_isOf RX7) (hr : meth.sig.returnType = (some .boolean)) (hlk : meth.locks = false) (hK : va_K G.1 vwCl (tyl G) s) (out : Int32 × St) : ∀ (S : St) (x1 : Int32) (x2 : Int32) (x3 : Int32) (H : Heap) (locs : List Loc) (ls : Array Slot), Wd shC idsC G A S H → va_S A s.heap H locs → lv_has ls 4 [(0, .ref (G.2.2 1 0)), (1, .int x1), (2, .int x2), (3, .int x3)] → j_X7_isOf_20 S x1 x2 x3 = some out → W p l e rm_X7_isOf s m args below meth c H locs 0 0 (MQ below (QI shC idsC G A out) args s 0 0 A) (F0 m 20 ls []) := by
  intro S x1 x2 x3 H locs ls hW hS hl h
  unfold j_X7_isOf_20 at h
  refine lv_aload_n F.1 F.2.1 dX7_isOf_20 rfl (lv_at hl 0 rfl) ?_
  refine rw_get (q0 := 1) F hK hW idC_1 rfl rfl in_X7_isOf_X7 1 (by decide) lk_X7_isOf_15 rfl dX7_isOf_21 ?_
  refine lv_iload_n F.1 F.2.1 dX7_isOf_24 rfl (lv_at hl 1 rfl) ?_
  obtain ⟨b_4, h⟩ := gd_some h
  refine rw_iald (q0 := 30) F hK hW idC_10 (fun _ => rfl) (ix_in b_4) dX7_isOf_25 ?_
  refine lv_topi (fun v_5 ev_5 => ?_)
  have h := lt_n ev_5 h
  refine lv_iload_n F.1 F.2.1 dX7_isOf_26 rfl (lv_at hl 3 rfl) ?_
  refine lv_icmp_ne (tgt := 44) F.1 F.2.1 dX7_isOf_27 (by decide) (fun c_6 => ?_) (fun c_6 => ?_)
  · have h := (if_neg c_6).symm.trans h
    exact w_X7_isOf_44 F hr hlk hK out  _ _ _ _  hW hS (lv_sub hl [] rfl) h
  · have h := (if_pos c_6).symm.trans h
    refine lv_aload_n F.1 F.2.1 dX7_isOf_30 rfl (lv_at hl 0 rfl) ?_
    refine rw_get (q0 := 1) F hK hW idC_1 rfl rfl in_X7_isOf_X7 2 (by decide) lk_X7_isOf_18 rfl dX7_isOf_31 ?_
    refine lv_iload_n F.1 F.2.1 dX7_isOf_34 rfl (lv_at hl 1 rfl) ?_
    obtain ⟨b_8, h⟩ := gd_some h
    refine rw_iald (q0 := 31) F hK hW idC_11 (fun _ => rfl) (ix_in b_8) dX7_isOf_35 ?_
    refine lv_topi (fun v_9 ev_9 => ?_)
    have h := lt_n ev_9 h
    refine lv_iload_n F.1 F.2.1 dX7_isOf_36 rfl (lv_at hl 2 rfl) ?_
    refine lv_icmp_ne (tgt := 44) F.1 F.2.1 dX7_isOf_37 (by decide) (fun c_10 => ?_) (fun c_10 => ?_)
    · have h := (if_neg c_10).symm.trans h
      exact w_X7_isOf_44 F hr hlk hK out  _ _ _ _  hW hS (lv_sub hl [] rfl) h
    · have h := (if_pos c_10).symm.trans h
      exact w_X7_isOf_40 F hr hlk hK out  _ _ _ _  hW hS (lv_sub hl [] rfl) h
set_option maxHeartbeats 4000000 in
set_option maxRecDepth 100000 in
theorem c_X7_isOf (l : Launch) (G : GT) (A : Nat → Prop) (a0 : Int32) (a1 : Int32) (a2 : Int32) (S : St) (out : Int32 × St) (h : f_X7_isOf a0 a1 a2 S = some out) : Met l yX7_isOf wsX7_isOf rm_X7_isOf (va_Pc [.ref (G.2.2 1 0), .int a0, .int a1, .int a2] (WD shC idsC G A S)) (QI shC idsC G A out) 0 0 A := by
  refine Met.ofW (cc := cX7_isOf) (maxL := 4) (ret := (some .boolean)) (by decide) rfl ?_
  intro p e s m args below meth c s₁ B hml hv
  obtain ⟨rfl, hW, hK⟩ := hv
  have F : CallFix p m c cX7_isOf 4 s _ wsX7_isOf RX7 := ⟨B.exec, B.bytes, hml, findClass_of_methodNamed B.named, atoms_spec (ws := wsX7_isOf) B.pre⟩
  have hr := B.returns
  have hlk := B.notSynchronized
  have hS : va_S A s.heap s.heap [] := va_S.rf
  have hl := lv_entry ([.ref (G.2.2 1 0), .int a0, .int a1, .int a2]) (n := 4) (Nat.le_of_ble_eq_true rfl)
  rw [lg_entry_eq]
  generalize (lg_sl ([.ref (G.2.2 1 0), .int a0, .int a1, .int a2]) ++ List.replicate (4 - (lg_sl ([.ref (G.2.2 1 0), .int a0, .int a1, .int a2])).length) Slot.unset).toArray = ls at hl ⊢
  have hl : lv_has ls 4 [(0, .ref (G.2.2 1 0)), (1, .int a0), (2, .int a1), (3, .int a2)] := hl
  unfold f_X7_isOf at h
  refine lv_aload_n F.1 F.2.1 dX7_isOf_0 rfl (lv_at hl 0 rfl) ?_
  refine rw_get (q0 := 1) F hK hW idC_1 rfl rfl in_X7_isOf_X7 1 (by decide) lk_X7_isOf_15 rfl dX7_isOf_1 ?_
  refine lv_iload_n F.1 F.2.1 dX7_isOf_4 rfl (lv_at hl 1 rfl) ?_
  obtain ⟨b_1, h⟩ := gd_some h
  refine rw_iald (q0 := 30) F hK hW idC_10 (fun _ => rfl) (ix_in b_1) dX7_isOf_5 ?_
  refine lv_topi (fun v_2 ev_2 => ?_)
  have h := lt_n ev_2 h
  refine lv_iload_n F.1 F.2.1 dX7_isOf_6 rfl (lv_at hl 2 rfl) ?_
  refine lv_icmp_ne (tgt := 20) F.1 F.2.1 dX7_isOf_7 (by decide) (fun c_3 => ?_) (fun c_3 => ?_)
  · have h := (if_neg c_3).symm.trans h
    exact w_X7_isOf_20 F hr hlk hK out  _ _ _ _ _ _ _  hW hS hl h
  · have h := (if_pos c_3).symm.trans h
    refine lv_aload_n F.1 F.2.1 dX7_isOf_10 rfl (lv_at hl 0 rfl) ?_
    refine rw_get (q0 := 1) F hK hW idC_1 rfl rfl in_X7_isOf_X7 2 (by decide) lk_X7_isOf_18 rfl dX7_isOf_11 ?_
    refine lv_iload_n F.1 F.2.1 dX7_isOf_14 rfl (lv_at hl 1 rfl) ?_
    obtain ⟨b_11, h⟩ := gd_some h
    refine rw_iald (q0 := 31) F hK hW idC_11 (fun _ => rfl) (ix_in b_11) dX7_isOf_15 ?_
    refine lv_topi (fun v_12 ev_12 => ?_)
    have h := lt_n ev_12 h
    refine lv_iload_n F.1 F.2.1 dX7_isOf_16 rfl (lv_at hl 3 rfl) ?_
    refine lv_icmp_eq (tgt := 40) F.1 F.2.1 dX7_isOf_17 (by decide) (fun c_13 => ?_) (fun c_13 => ?_)
    · have h := (if_pos c_13).symm.trans h
      exact w_X7_isOf_40 F hr hlk hK out  _ _ _ _  hW hS (lv_sub hl [] rfl) h
    · have h := (if_neg c_13).symm.trans h
      exact w_X7_isOf_20 F hr hlk hK out  _ _ _ _ _ _ _  hW hS hl h
