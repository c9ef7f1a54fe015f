/-! CellCover$Cover.listInstances()V -/
abbrev rm_X1_listInstances : Room := { frames := 3, cells := 0, slots := 0, locals := 68 }
theorem in_X1_listInstances_X1 : ∀ w ∈ wsX10, w ∈ wsX1_listInstances := by decide +kernel
theorem in_X1_listInstances_X7 : ∀ w ∈ wsX70, w ∈ wsX1_listInstances := by decide +kernel
theorem lk_X1_listInstances_37 : Cond.fieldLink RX1 37 "CellCover$Cover" "instances" "I" ∈ wsX1_listInstances := by decide +kernel
theorem lk_X1_listInstances_41 : Cond.fieldLink RX1 41 "CellCover$Cover" "wholeArea" "I" ∈ wsX1_listInstances := by decide +kernel
theorem lk_X1_listInstances_47 : Cond.fieldLink RX1 47 "CellCover$Cover" "vertices" "LCellCover$Vertices;" ∈ wsX1_listInstances := by decide +kernel
theorem lk_X1_listInstances_64 : Cond.fieldLink RX1 64 "CellCover$Vertices" "many" "I" ∈ wsX1_listInstances := by decide +kernel
theorem lk_X1_listInstances_27 : Cond.fieldLink RX1 27 "CellCover$Cover" "stands" "[Z" ∈ wsX1_listInstances := by decide +kernel
theorem lk_X1_listInstances_74 : Cond.fieldLink RX1 74 "CellCover$Vertices" "root" "[Z" ∈ wsX1_listInstances := by decide +kernel
set_option maxHeartbeats 4000000 in
set_option maxRecDepth 100000 in
theorem w_X1_listInstances_12 {p : Program} {l : Launch} {e : Env} {s : State} {m : MethodId} {args : Array Value} {below : List Frame} {meth : Method} {c : Code} {G : GT} {A : Nat → Prop} (F : CallFix p m c cX1_listInstances 2 s args wsX1_listInstances RX1) (hr : meth.sig.returnType = none) (hlk : meth.locks = false) (hK : va_K G.1 vwCl (tyl G) s) (t : Nat) (ht : t < 2) (out : St) (k36 : St → Option (St)) (K36 : ∀ (S : St) (H : Heap) (locs : List Loc) (ls : Array Slot), Wd shC idsC G A S H → va_S A s.heap H locs → lv_has ls 2 [(0, .ref (G.2.2 6 t))] → k36 S = some out → W p l e rm_X1_listInstances s m args below meth c H locs 0 0 (MQ below (QV shC idsC G A out) args s 0 0 A) (F0 m 36 ls [])) : ∀ n : Nat, ∀ (S : St) (x1 : Int32) (H : Heap) (locs : List Loc) (ls : Array Slot), Wd shC idsC G A S H → va_S A s.heap H locs → lv_has ls 2 [(0, .ref (G.2.2 6 t)), (1, .int x1)] → l_X1_listInstances_12 t k36 n S x1 = some out → W p l e rm_X1_listInstances s m args below meth c H locs 0 0 (MQ below (QV shC idsC G A out) args s 0 0 A) (F0 m 12 ls []) := by
  intro n
  induction n with
  | zero =>
    intro S x1 H locs ls hW hS hl h
    cases h
  | succ n Kb =>
    generalize hkb : l_X1_listInstances_12 t k36 n = kb at Kb
    intro S x1 H locs ls hW hS hl h
    rw [show l_X1_listInstances_12 t k36 (n + 1) = b_X1_listInstances_12 t (l_X1_listInstances_12 t k36 n) k36 from rfl, hkb] at h
    unfold b_X1_listInstances_12 at h
    refine lv_iload_n F.1 F.2.1 dX1_listInstances_12 rfl (lv_at hl 1 rfl) ?_
    refine lv_aload_n F.1 F.2.1 dX1_listInstances_13 rfl (lv_at hl 0 rfl) ?_
    refine rw_get (q0 := 6 + t) F hK hW (idC_6 _ ht) rfl rfl in_X1_listInstances_X1 0 (by decide) lk_X1_listInstances_47 rfl dX1_listInstances_14 ?_
    refine rw_get (q0 := 1) F hK hW idC_1 rfl rfl in_X1_listInstances_X7 6 (by decide) lk_X1_listInstances_64 rfl dX1_listInstances_17 ?_
    refine lv_icmp_ge (tgt := 36) F.1 F.2.1 dX1_listInstances_20 (by decide) (fun c_3 => ?_) (fun c_3 => ?_)
    · have h := (if_pos c_3).symm.trans h
      exact K36 _ _ _ _  hW hS (lv_sub hl [0] rfl) h
    · have h := (if_neg c_3).symm.trans h
      refine lv_aload_n F.1 F.2.1 dX1_listInstances_23 rfl (lv_at hl 0 rfl) ?_
      refine rw_get (q0 := 6 + t) F hK hW (idC_6 _ ht) rfl rfl in_X1_listInstances_X1 8 (by decide) lk_X1_listInstances_27 rfl dX1_listInstances_24 ?_
      refine lv_iload_n F.1 F.2.1 dX1_listInstances_27 rfl (lv_at hl 1 rfl) ?_
      refine lv_iconst (v := 0) F.1 F.2.1 dX1_listInstances_28 (by decide) ?_
      obtain ⟨b_4, h⟩ := gd_some h
      refine rw_zast ndC (q0 := 57 + t) F hK hW hS (idC_32 _ ht) (fun _ => rfl) (ix_in b_4) dX1_listInstances_29 (fun H locs S_5 eS_5 hW hS => ?_)
      have h := lt_n eS_5 h
      obtain ⟨v_6, ev_6⟩ : ∃ y : Int32, y = x1 + 1 := ⟨_, rfl⟩
      have h := lt_n ev_6 h
      refine lv_iinc (v := v_6) (lv' := [(1, .int v_6), (0, .ref (G.2.2 6 t))]) F.1 F.2.1 dX1_listInstances_30 hl (k := 1) rfl (by rw [ev_6]; rfl) (by decide) rfl (fun ls hl => ?_)
      refine lv_goto (tgt := 12) F.1 F.2.1 dX1_listInstances_33 (by decide) ?_
      exact Kb _ _ _ _ _  hW hS (lv_sub hl [1, 0] rfl) h
set_option maxHeartbeats 4000000 in
set_option maxRecDepth 100000 in
theorem w_X1_listInstances_66 {p : Program} {l : Launch} {e : Env} {s : State} {m : MethodId} {args : Array Value} {below : List Frame} {meth : Method} {c : Code} {G : GT} {A : Nat → Prop} (F : CallFix p m c cX1_listInstances 2 s args wsX1_listInstances RX1) (hr : meth.sig.returnType = none) (hlk : meth.locks = false) (hK : va_K G.1 vwCl (tyl G) s) (t : Nat) (ht : t < 2) (out : St) (kb : St → Int32 → Option (St)) (Kb : ∀ (S : St) (x1 : Int32) (H : Heap) (locs : List Loc) (ls : Array Slot), Wd shC idsC G A S H → va_S A s.heap H locs → lv_has ls 2 [(0, .ref (G.2.2 6 t)), (1, .int x1)] → kb S x1 = some out → W p l e rm_X1_listInstances s m args below meth c H locs 0 0 (MQ below (QV shC idsC G A out) args s 0 0 A) (F0 m 38 ls [])) : ∀ (S : St) (x1 : Int32) (H : Heap) (locs : List Loc) (ls : Array Slot), Wd shC idsC G A S H → va_S A s.heap H locs → lv_has ls 2 [(0, .ref (G.2.2 6 t)), (1, .int x1)] → j_X1_listInstances_66 t kb S x1 = some out → W p l e rm_X1_listInstances s m args below meth c H locs 0 0 (MQ below (QV shC idsC G A out) args s 0 0 A) (F0 m 66 ls []) := by
  intro S x1 H locs ls hW hS hl h
  unfold j_X1_listInstances_66 at h
  obtain ⟨v_11, ev_11⟩ : ∃ y : Int32, y = x1 + 1 := ⟨_, rfl⟩
  have h := lt_n ev_11 h
  refine lv_iinc (v := v_11) (lv' := [(1, .int v_11), (0, .ref (G.2.2 6 t))]) F.1 F.2.1 dX1_listInstances_66 hl (k := 1) rfl (by rw [ev_11]; rfl) (by decide) rfl (fun ls hl => ?_)
  refine lv_goto (tgt := 38) F.1 F.2.1 dX1_listInstances_69 (by decide) ?_
  exact Kb _ _ _ _ _  hW hS (lv_sub hl [1, 0] rfl) h
set_option maxHeartbeats 4000000 in
set_option maxRecDepth 100000 in
theorem w_X1_listInstances_38 {p : Program} {l : Launch} {e : Env} {s : State} {m : MethodId} {args : Array Value} {below : List Frame} {meth : Method} {c : Code} {G : GT} {A : Nat → Prop} (F : CallFix p m c cX1_listInstances 2 s args wsX1_listInstances RX1) (hr : meth.sig.returnType = none) (hlk : meth.locks = false) (hK : va_K G.1 vwCl (tyl G) s) (t : Nat) (ht : t < 2) (out : St) : ∀ n : Nat, ∀ (S : St) (x1 : Int32) (H : Heap) (locs : List Loc) (ls : Array Slot), Wd shC idsC G A S H → va_S A s.heap H locs → lv_has ls 2 [(0, .ref (G.2.2 6 t)), (1, .int x1)] → l_X1_listInstances_38 t n S x1 = some out → W p l e rm_X1_listInstances s m args below meth c H locs 0 0 (MQ below (QV shC idsC G A out) args s 0 0 A) (F0 m 38 ls []) := by
  intro n
  induction n with
  | zero =>
    intro S x1 H locs ls hW hS hl h
    cases h
  | succ n Kb =>
    generalize hkb : l_X1_listInstances_38 t n = kb at Kb
    intro S x1 H locs ls hW hS hl h
    rw [show l_X1_listInstances_38 t (n + 1) = b_X1_listInstances_38 t (l_X1_listInstances_38 t n) from rfl, hkb] at h
    unfold b_X1_listInstances_38 at h
    refine lv_iload_n F.1 F.2.1 dX1_listInstances_38 rfl (lv_at hl 1 rfl) ?_
    refine lv_aload_n F.1 F.2.1 dX1_listInstances_39 rfl (lv_at hl 0 rfl) ?_
    refine rw_get (q0 := 6 + t) F hK hW (idC_6 _ ht) rfl rfl in_X1_listInstances_X1 0 (by decide) lk_X1_listInstances_47 rfl dX1_listInstances_40 ?_
    refine rw_get (q0 := 1) F hK hW idC_1 rfl rfl in_X1_listInstances_X7 6 (by decide) lk_X1_listInstances_64 rfl dX1_listInstances_43 ?_
    refine lv_icmp_ge (tgt := 72) F.1 F.2.1 dX1_listInstances_46 (by decide) (fun c_7 => ?_) (fun c_7 => ?_)
    · have h := (if_pos c_7).symm.trans h
      exact rw_retv F hr hlk hK hW hS h dX1_listInstances_72
    · have h := (if_neg c_7).symm.trans h
      refine lv_aload_n F.1 F.2.1 dX1_listInstances_49 rfl (lv_at hl 0 rfl) ?_
      refine rw_get (q0 := 6 + t) F hK hW (idC_6 _ ht) rfl rfl in_X1_listInstances_X1 0 (by decide) lk_X1_listInstances_47 rfl dX1_listInstances_50 ?_
      refine rw_get (q0 := 1) F hK hW idC_1 rfl rfl in_X1_listInstances_X7 5 (by decide) lk_X1_listInstances_74 rfl dX1_listInstances_53 ?_
      refine lv_iload_n F.1 F.2.1 dX1_listInstances_56 rfl (lv_at hl 1 rfl) ?_
      obtain ⟨b_8, h⟩ := gd_some h
      refine rw_zald (q0 := 34) F hK hW idC_14 (fun _ => rfl) (ix_in b_8) dX1_listInstances_57 ?_
      refine lv_topi (fun v_9 ev_9 => ?_)
      have h := lt_n ev_9 h
      refine lv_if_eq (tgt := 66) F.1 F.2.1 dX1_listInstances_58 (by decide) (fun c_10 => ?_) (fun c_10 => ?_)
      · have h := (if_pos c_10).symm.trans h
        exact w_X1_listInstances_66 F hr hlk hK t ht out kb Kb _ _ _ _ _  hW hS hl h
      · have h := (if_neg c_10).symm.trans h
        refine lv_aload_n F.1 F.2.1 dX1_listInstances_61 rfl (lv_at hl 0 rfl) ?_
        refine lv_iload_n F.1 F.2.1 dX1_listInstances_62 rfl (lv_at hl 1 rfl) ?_
        obtain ⟨q_12, hq_12, h⟩ := bv_some h
        refine rw_vv F hK hW hS [.int x1] (rest := []) (c_X1_listBeneath l G A t ht x1 S q_12 hq_12) (cwV 1 F.2.2.2.2 gX1_listInstances_X1_listBeneath rfl rfl rfl (by decide +kernel) ⟨Nat.le_of_ble_eq_true rfl, Nat.le_of_ble_eq_true rfl⟩) (rw_recv (q0 := 6 + t) hK hW (idC_6 _ ht) rfl rfl) rfl hl.1 rfl (Nat.le_of_ble_eq_true rfl) dX1_listInstances_63 (fun H locs hW hS => ?_)
        exact w_X1_listInstances_66 F hr hlk hK t ht out kb Kb _ _ _ _ _  hW hS hl h
set_option maxHeartbeats 4000000 in
set_option maxRecDepth 100000 in
theorem c_X1_listInstances (l : Launch) (G : GT) (A : Nat → Prop) (t : Nat) (ht : t < 2) (S : St) (out : St) (h : f_X1_listInstances t S = some out) : Met l yX1_listInstances wsX1_listInstances rm_X1_listInstances (va_Pc [.ref (G.2.2 6 t)] (WD shC idsC G A S)) (QV shC idsC G A out) 0 0 A := by
  refine Met.ofW (cc := cX1_listInstances) (maxL := 2) (ret := none) (by decide) rfl ?_
  intro p e s m args below meth c s₁ B hml hv
  obtain ⟨rfl, hW, hK⟩ := hv
  have F : CallFix p m c cX1_listInstances 2 s _ wsX1_listInstances RX1 := ⟨B.exec, B.bytes, hml, findClass_of_methodNamed B.named, atoms_spec (ws := wsX1_listInstances) B.pre⟩
  have hr := B.returns
  have hlk := B.notSynchronized
  have hS : va_S A s.heap s.heap [] := va_S.rf
  have hl := lv_entry ([.ref (G.2.2 6 t)]) (n := 2) (Nat.le_of_ble_eq_true rfl)
  rw [lg_entry_eq]
  generalize (lg_sl ([.ref (G.2.2 6 t)]) ++ List.replicate (2 - (lg_sl ([.ref (G.2.2 6 t)])).length) Slot.unset).toArray = ls at hl ⊢
  have hl : lv_has ls 2 [(0, .ref (G.2.2 6 t))] := hl
  unfold f_X1_listInstances at h
  refine lv_aload_n F.1 F.2.1 dX1_listInstances_0 rfl (lv_at hl 0 rfl) ?_
  refine lv_iconst (v := 0) F.1 F.2.1 dX1_listInstances_1 (by decide) ?_
  refine rw_put ndC (q0 := 6 + t) (x := 0) F hK hW hS (idC_6 _ ht) rfl rfl in_X1_listInstances_X1 tyX1 tyX1_ok nmX1 11 (by decide) lk_X1_listInstances_37 rfl (ty := .int) (by decide +kernel) rfl rfl (Nat.le_of_ble_eq_true rfl) rfl dX1_listInstances_2 (fun H locs S_1 eS_1 hW hS => ?_)
  have h := lt_n eS_1 h
  refine lv_aload_n F.1 F.2.1 dX1_listInstances_5 rfl (lv_at hl 0 rfl) ?_
  refine lv_iconst (v := 0) F.1 F.2.1 dX1_listInstances_6 (by decide) ?_
  refine rw_put ndC (q0 := 6 + t) (x := 0) F hK hW hS (idC_6 _ ht) rfl rfl in_X1_listInstances_X1 tyX1 tyX1_ok nmX1 12 (by decide) lk_X1_listInstances_41 rfl (ty := .int) (by decide +kernel) rfl rfl (Nat.le_of_ble_eq_true rfl) rfl dX1_listInstances_7 (fun H locs S_2 eS_2 hW hS => ?_)
  have h := lt_n eS_2 h
  refine lv_iconst (v := 0) F.1 F.2.1 dX1_listInstances_10 (by decide) ?_
  refine lv_istore_n (lv' := [(1, .int 0), (0, .ref (G.2.2 6 t))]) F.1 F.2.1 dX1_listInstances_11 rfl hl (by decide) rfl (fun ls hl => ?_)
  refine w_X1_listInstances_12 F hr hlk hK t ht out _ ?_ 5000 _ _ _ _ _  hW hS (lv_sub hl [1, 0] rfl) h
  · intro S H locs ls hW hS hl h
    refine lv_iconst (v := 0) F.1 F.2.1 dX1_listInstances_36 (by decide) ?_
    refine lv_istore_n (lv' := [(1, .int 0), (0, .ref (G.2.2 6 t))]) F.1 F.2.1 dX1_listInstances_37 rfl hl (by decide) rfl (fun ls hl => ?_)
    refine w_X1_listInstances_38 F hr hlk hK t ht out   5000 _ _ _ _ _  hW hS (lv_sub hl [1, 0] rfl) h
/-! CellCover$Cover.make(II)I -/
abbrev rm_X1_make : Room := { frames := 4, cells := 0, slots := 0, locals := 98 }
theorem in_X1_make_X1 : ∀ w ∈ wsX10, w ∈ wsX1_make := by decide +kernel
theorem in_X1_make_X7 : ∀ w ∈ wsX70, w ∈ wsX1_make := by decide +kernel
theorem lk_X1_make_44 : Cond.fieldLink RX1 44 "CellCover$Cover" "manner" "I" ∈ wsX1_make := by decide +kernel
theorem lk_X1_make_47 : Cond.fieldLink RX1 47 "CellCover$Cover" "vertices" "LCellCover$Vertices;" ∈ wsX1_make := by decide +kernel
theorem lk_X1_make_64 : Cond.fieldLink RX1 64 "CellCover$Vertices" "many" "I" ∈ wsX1_make := by decide +kernel
theorem lk_X1_make_18 : Cond.fieldLink RX1 18 "CellCover$Cover" "cellOf" "[I" ∈ wsX1_make := by decide +kernel
theorem lk_X1_make_9 : Cond.fieldLink RX1 9 "CellCover$Cover" "areaOf" "[I" ∈ wsX1_make := by decide +kernel
theorem lk_X1_make_15 : Cond.fieldLink RX1 15 "CellCover$Cover" "arrivalOf" "[I" ∈ wsX1_make := by decide +kernel
theorem lk_X1_make_67 : Cond.fieldLink RX1 67 "CellCover$Vertices" "lives" "[Z" ∈ wsX1_make := by decide +kernel
theorem lk_X1_make_74 : Cond.fieldLink RX1 74 "CellCover$Vertices" "root" "[Z" ∈ wsX1_make := by decide +kernel
theorem lk_X1_make_59 : Cond.fieldLink RX1 59 "CellCover$Vertices" "form" "[I" ∈ wsX1_make := by decide +kernel
set_option maxHeartbeats 4000000 in
set_option maxRecDepth 100000 in
theorem w_X1_make_95 {p : Program} {l : Launch} {e : Env} {s : State} {m : MethodId} {args : Array Value} {below : List Frame} {meth : Method} {c : Code} {G : GT} {A : Nat → Prop} (F : CallFix p m c cX1_make 4 s args wsX1_make RX1) (hr : meth.sig.returnType = (some .int)) (hlk : meth.locks = false) (hK : va_K G.1 vwCl (tyl G) s) (t : Nat) (ht : t < 2) (out : Int32 × St) (kb : St → Int32 → Int32 → Option (Int32 × St)) (Kb : ∀ (S : St) (x2 : Int32) (x3 : Int32) (H : Heap) (locs : List Loc) (ls : Array Slot), Wd shC idsC G A S H → va_S A s.heap H locs → lv_has ls 4 [(0, .ref (G.2.2 6 t)), (2, .int x2), (3, .int x3)] → kb S x2 x3 = some out → W p l e rm_X1_make s m args below meth c H locs 0 0 (MQ below (QI shC idsC G A out) args s 0 0 A) (F0 m 7 ls [])) : ∀ (S : St) (x2 : Int32) (x3 : Int32) (H : Heap) (locs : List Loc) (ls : Array Slot), Wd shC idsC G A S H → va_S A s.heap H locs → lv_has ls 4 [(0, .ref (G.2.2 6 t)), (2, .int x2), (3, .int x3)] → j_X1_make_95 t kb S x2 x3 = some out → W p l e rm_X1_make s m args below meth c H locs 0 0 (MQ below (QI shC idsC G A out) args s 0 0 A) (F0 m 95 ls []) := by
  intro S x2 x3 H locs ls hW hS hl h
  unfold j_X1_make_95 at h
  obtain ⟨v_17, ev_17⟩ : ∃ y : Int32, y = x3 + 1 := ⟨_, rfl⟩
  have h := lt_n ev_17 h
  refine lv_iinc (v := v_17) (lv' := [(3, .int v_17), (0, .ref (G.2.2 6 t)), (2, .int x2)]) F.1 F.2.1 dX1_make_95 hl (k := 2) rfl (by rw [ev_17]; rfl) (by decide) rfl (fun ls hl => ?_)
  refine lv_goto (tgt := 7) F.1 F.2.1 dX1_make_98 (by decide) ?_
  exact Kb _ _ _ _ _ _  hW hS (lv_sub hl [1, 2, 0] rfl) h
set_option maxHeartbeats 4000000 in
set_option maxRecDepth 100000 in
theorem w_X1_make_70 {p : Program} {l : Launch} {e : Env} {s : State} {m : MethodId} {args : Array Value} {below : List Frame} {meth : Method} {c : Code} {G : GT} {A : Nat → Prop} (F : CallFix p m c cX1_make 4 s args wsX1_make RX1) (hr : meth.sig.returnType = (some .int)) (hlk : meth.locks = false) (hK : va_K G.1 vwCl (tyl G) s) (t : Nat) (ht : t < 2) (out : Int32 × St) (kb : St → Int32 → Int32 → Option (Int32 × St)) (Kb : ∀ (S : St) (x2 : Int32) (x3 : Int32) (H : Heap) (locs : List Loc) (ls : Array Slot), Wd shC idsC G A S H → va_S A s.heap H locs → lv_has ls 4 [(0, .ref (G.2.2 6 t)), (2, .int x2), (3, .int x3)] → kb S x2 x3 = some out → W p l e rm_X1_make s m args below meth c H locs 0 0 (MQ below (QI shC idsC G A out) args s 0 0 A) (F0 m 7 ls [])) : ∀ (S : St) (x2 : Int32) (x3 : Int32) (H : Heap) (locs : List Loc) (ls : Array Slot), Wd shC idsC G A S H → va_S A s.heap H locs → lv_has ls 4 [(0, .ref (G.2.2 6 t)), (2, .int x2), (3, .int x3)] → j_X1_make_70 t kb S x2 x3 = some out → W p l e rm_X1_make s m args below meth c H locs 0 0 (MQ below (QI shC idsC G A out) args s 0 0 A) (F0 m 70 ls []) := by
  intro S x2 x3 H locs ls hW hS hl h
  unfold j_X1_make_70 at h
  refine lv_aload_n F.1 F.2.1 dX1_make_70 rfl (lv_at hl 0 rfl) ?_
  refine rw_get (q0 := 6 + t) F hK hW (idC_6 _ ht) rfl rfl in_X1_make_X1 0 (by decide) lk_X1_make_47 rfl dX1_make_71 ?_
  refine rw_get (q0 := 1) F hK hW idC_1 rfl rfl in_X1_make_X7 5 (by decide) lk_X1_make_74 rfl dX1_make_74 ?_
  refine lv_iload_n F.1 F.2.1 dX1_make_77 rfl (lv_at hl 2 rfl) ?_
  obtain ⟨b_14, h⟩ := gd_some h
  refine rw_zald (q0 := 34) F hK hW idC_14 (fun _ => rfl) (ix_in b_14) dX1_make_78 ?_
  refine lv_topi (fun v_15 ev_15 => ?_)
  have h := lt_n ev_15 h
  refine lv_if_eq (tgt := 95) F.1 F.2.1 dX1_make_79 (by decide) (fun c_16 => ?_) (fun c_16 => ?_)
  · have h := (if_pos c_16).symm.trans h
    exact w_X1_make_95 F hr hlk hK t ht out kb Kb _ _ _ _ _ _  hW hS hl h
  · have h := (if_neg c_16).symm.trans h
    refine lv_aload_n F.1 F.2.1 dX1_make_82 rfl (lv_at hl 0 rfl) ?_
    refine rw_get (q0 := 6 + t) F hK hW (idC_6 _ ht) rfl rfl in_X1_make_X1 5 (by decide) lk_X1_make_18 rfl dX1_make_83 ?_
    refine lv_iload_n F.1 F.2.1 dX1_make_86 rfl (lv_at hl 2 rfl) ?_
    obtain ⟨b_18, h⟩ := gd_some h
    refine rw_iald (q0 := 51 + t) F hK hW (idC_29 _ ht) (fun _ => rfl) (ix_in b_18) dX1_make_87 ?_
    refine lv_topi (fun v_19 ev_19 => ?_)
    have h := lt_n ev_19 h
    refine lv_bipush (v := -4) F.1 F.2.1 dX1_make_88 (by decide) ?_
    refine lv_icmp_ne (tgt := 95) F.1 F.2.1 dX1_make_90 (by decide) (fun c_20 => ?_) (fun c_20 => ?_)
    · have h := (if_neg c_20).symm.trans h
      exact w_X1_make_95 F hr hlk hK t ht out kb Kb _ _ _ _ _ _  hW hS hl h
    · have h := (if_pos c_20).symm.trans h
      refine lv_iload_n F.1 F.2.1 dX1_make_93 rfl (lv_at hl 2 rfl) ?_
      exact rw_ret F hr hlk hK hW hS h dX1_make_94
set_option maxHeartbeats 4000000 in
set_option maxRecDepth 100000 in
theorem w_X1_make_7 {p : Program} {l : Launch} {e : Env} {s : State} {m : MethodId} {args : Array Value} {below : List Frame} {meth : Method} {c : Code} {G : GT} {A : Nat → Prop} (F : CallFix p m c cX1_make 4 s args wsX1_make RX1) (hr : meth.sig.returnType = (some .int)) (hlk : meth.locks = false) (hK : va_K G.1 vwCl (tyl G) s) (t : Nat) (ht : t < 2) (out : Int32 × St) : ∀ n : Nat, ∀ (S : St) (x2 : Int32) (x3 : Int32) (H : Heap) (locs : List Loc) (ls : Array Slot), Wd shC idsC G A S H → va_S A s.heap H locs → lv_has ls 4 [(0, .ref (G.2.2 6 t)), (2, .int x2), (3, .int x3)] → l_X1_make_7 t n S x2 x3 = some out → W p l e rm_X1_make s m args below meth c H locs 0 0 (MQ below (QI shC idsC G A out) args s 0 0 A) (F0 m 7 ls []) := by
  intro n
  induction n with
  | zero =>
    intro S x2 x3 H locs ls hW hS hl h
    cases h
  | succ n Kb =>
    generalize hkb : l_X1_make_7 t n = kb at Kb
    intro S x2 x3 H locs ls hW hS hl h
    rw [show l_X1_make_7 t (n + 1) = b_X1_make_7 t (l_X1_make_7 t n) from rfl, hkb] at h
    unfold b_X1_make_7 at h
    refine lv_iload_n F.1 F.2.1 dX1_make_7 rfl (lv_at hl 2 rfl) ?_
    refine lv_aload_n F.1 F.2.1 dX1_make_8 rfl (lv_at hl 0 rfl) ?_
    refine rw_get (q0 := 6 + t) F hK hW (idC_6 _ ht) rfl rfl in_X1_make_X1 0 (by decide) lk_X1_make_47 rfl dX1_make_9 ?_
    refine rw_get (q0 := 1) F hK hW idC_1 rfl rfl in_X1_make_X7 6 (by decide) lk_X1_make_64 rfl dX1_make_12 ?_
    refine lv_icmp_ge (tgt := 101) F.1 F.2.1 dX1_make_15 (by decide) (fun c_2 => ?_) (fun c_2 => ?_)
    · have h := (if_pos c_2).symm.trans h
      refine lv_aload_n F.1 F.2.1 dX1_make_101 rfl (lv_at hl 0 rfl) ?_
      obtain ⟨q_3, hq_3, h⟩ := bv_some h
      refine rw_vv F hK hW hS [] (rest := []) (c_X1_listInstances l G A t ht S q_3 hq_3) (cwV 0 F.2.2.2.2 gX1_make_X1_listInstances rfl rfl rfl (by decide +kernel) ⟨Nat.le_of_ble_eq_true rfl, Nat.le_of_ble_eq_true rfl⟩) (rw_recv (q0 := 6 + t) hK hW (idC_6 _ ht) rfl rfl) rfl hl.1 rfl (Nat.le_of_ble_eq_true rfl) dX1_make_102 (fun H locs hW hS => ?_)
      refine lv_bipush (v := -4) F.1 F.2.1 dX1_make_105 (by decide) ?_
      exact rw_ret F hr hlk hK hW hS h dX1_make_107
    · have h := (if_neg c_2).symm.trans h
      refine lv_aload_n F.1 F.2.1 dX1_make_18 rfl (lv_at hl 0 rfl) ?_
      refine rw_get (q0 := 6 + t) F hK hW (idC_6 _ ht) rfl rfl in_X1_make_X1 5 (by decide) lk_X1_make_18 rfl dX1_make_19 ?_
      refine lv_iload_n F.1 F.2.1 dX1_make_22 rfl (lv_at hl 2 rfl) ?_
      refine lv_bipush (v := -4) F.1 F.2.1 dX1_make_23 (by decide) ?_
      obtain ⟨b_5, h⟩ := gd_some h
      refine rw_iast ndC (q0 := 51 + t) F hK hW hS (idC_29 _ ht) (fun _ => rfl) (ix_in b_5) dX1_make_25 (fun H locs S_6 eS_6 hW hS => ?_)
      have h := lt_n eS_6 h
      refine lv_aload_n F.1 F.2.1 dX1_make_26 rfl (lv_at hl 0 rfl) ?_
      refine rw_get (q0 := 6 + t) F hK hW (idC_6 _ ht) rfl rfl in_X1_make_X1 3 (by decide) lk_X1_make_9 rfl dX1_make_27 ?_
      refine lv_iload_n F.1 F.2.1 dX1_make_30 rfl (lv_at hl 2 rfl) ?_
      refine lv_iconst (v := 0) F.1 F.2.1 dX1_make_31 (by decide) ?_
      obtain ⟨b_7, h⟩ := gd_some h
      refine rw_iast ndC (q0 := 47 + t) F hK hW hS (idC_27 _ ht) (fun _ => rfl) (ix_in b_7) dX1_make_32 (fun H locs S_8 eS_8 hW hS => ?_)
      have h := lt_n eS_8 h
      refine lv_aload_n F.1 F.2.1 dX1_make_33 rfl (lv_at hl 0 rfl) ?_
      refine rw_get (q0 := 6 + t) F hK hW (idC_6 _ ht) rfl rfl in_X1_make_X1 4 (by decide) lk_X1_make_15 rfl dX1_make_34 ?_
      refine lv_iload_n F.1 F.2.1 dX1_make_37 rfl (lv_at hl 2 rfl) ?_
      refine lv_iconst (v := 0) F.1 F.2.1 dX1_make_38 (by decide) ?_
      obtain ⟨b_9, h⟩ := gd_some h
      refine rw_iast ndC (q0 := 49 + t) F hK hW hS (idC_28 _ ht) (fun _ => rfl) (ix_in b_9) dX1_make_39 (fun H locs S_10 eS_10 hW hS => ?_)
      have h := lt_n eS_10 h
      refine lv_aload_n F.1 F.2.1 dX1_make_40 rfl (lv_at hl 0 rfl) ?_
      refine rw_get (q0 := 6 + t) F hK hW (idC_6 _ ht) rfl rfl in_X1_make_X1 0 (by decide) lk_X1_make_47 rfl dX1_make_41 ?_
      refine rw_get (q0 := 1) F hK hW idC_1 rfl rfl in_X1_make_X7 4 (by decide) lk_X1_make_67 rfl dX1_make_44 ?_
      refine lv_iload_n F.1 F.2.1 dX1_make_47 rfl (lv_at hl 2 rfl) ?_
      obtain ⟨b_11, h⟩ := gd_some h
      refine rw_zald (q0 := 33) F hK hW idC_13 (fun _ => rfl) (ix_in b_11) dX1_make_48 ?_
      refine lv_topi (fun v_12 ev_12 => ?_)
      have h := lt_n ev_12 h
      refine lv_if_eq (tgt := 70) F.1 F.2.1 dX1_make_49 (by decide) (fun c_13 => ?_) (fun c_13 => ?_)
      · have h := (if_pos c_13).symm.trans h
        exact w_X1_make_70 F hr hlk hK t ht out kb Kb _ _ _ _ _ _  hW hS hl h
      · have h := (if_neg c_13).symm.trans h
        refine lv_aload_n F.1 F.2.1 dX1_make_52 rfl (lv_at hl 0 rfl) ?_
        refine rw_get (q0 := 6 + t) F hK hW (idC_6 _ ht) rfl rfl in_X1_make_X1 0 (by decide) lk_X1_make_47 rfl dX1_make_53 ?_
        refine rw_get (q0 := 1) F hK hW idC_1 rfl rfl in_X1_make_X7 0 (by decide) lk_X1_make_59 rfl dX1_make_56 ?_
        refine lv_iload_n F.1 F.2.1 dX1_make_59 rfl (lv_at hl 2 rfl) ?_
        obtain ⟨b_21, h⟩ := gd_some h
        refine rw_iald (q0 := 29) F hK hW idC_9 (fun _ => rfl) (ix_in b_21) dX1_make_60 ?_
        refine lv_topi (fun v_22 ev_22 => ?_)
        have h := lt_n ev_22 h
        refine lv_if_eq (tgt := 70) F.1 F.2.1 dX1_make_61 (by decide) (fun c_23 => ?_) (fun c_23 => ?_)
        · have h := (if_pos c_23).symm.trans h
          exact w_X1_make_70 F hr hlk hK t ht out kb Kb _ _ _ _ _ _  hW hS hl h
        · have h := (if_neg c_23).symm.trans h
          refine lv_aload_n F.1 F.2.1 dX1_make_64 rfl (lv_at hl 0 rfl) ?_
          refine lv_iload_n F.1 F.2.1 dX1_make_65 rfl (lv_at hl 2 rfl) ?_
          refine lv_iload_n F.1 F.2.1 dX1_make_66 rfl (lv_at hl 1 rfl) ?_
          obtain ⟨q_24, hq_24, h⟩ := bv_some h
          refine rw_vv F hK hW hS [.int x3, .int x2] (rest := []) (c_X1_choose l G A t ht x3 x2 S_10 q_24 hq_24) (cwV 2 F.2.2.2.2 gX1_make_X1_choose rfl rfl rfl (by decide +kernel) ⟨Nat.le_of_ble_eq_true rfl, Nat.le_of_ble_eq_true rfl⟩) (rw_recv (q0 := 6 + t) hK hW (idC_6 _ ht) rfl rfl) rfl hl.1 rfl (Nat.le_of_ble_eq_true rfl) dX1_make_67 (fun H locs hW hS => ?_)
          exact w_X1_make_70 F hr hlk hK t ht out kb Kb _ _ _ _ _ _  hW hS hl h
set_option maxHeartbeats 4000000 in
set_option maxRecDepth 100000 in
theorem c_X1_make (l : Launch) (G : GT) (A : Nat → Prop) (t : Nat) (ht : t < 2) (a0 : Int32) (a1 : Int32) (S : St) (out : Int32 × St) (h : f_X1_make t a0 a1 S = some out) : Met l yX1_make wsX1_make rm_X1_make (va_Pc [.ref (G.2.2 6 t), .int a0, .int a1] (WD shC idsC G A S)) (QI shC idsC G A out) 0 0 A := by
  refine Met.ofW (cc := cX1_make) (maxL := 4) (ret := (some .int)) (by decide) rfl ?_
  intro p e s m args below meth c s₁ B hml hv
  obtain ⟨rfl, hW, hK⟩ := hv
  have F : CallFix p m c cX1_make 4 s _ wsX1_make RX1 := ⟨B.exec, B.bytes, hml, findClass_of_methodNamed B.named, atoms_spec (ws := wsX1_make) B.pre⟩
  have hr := B.returns
  have hlk := B.notSynchronized
  have hS : va_S A s.heap s.heap [] := va_S.rf
  have hl := lv_entry ([.ref (G.2.2 6 t), .int a0, .int a1]) (n := 4) (Nat.le_of_ble_eq_true rfl)
  rw [lg_entry_eq]
  generalize (lg_sl ([.ref (G.2.2 6 t), .int a0, .int a1]) ++ List.replicate (4 - (lg_sl ([.ref (G.2.2 6 t), .int a0, .int a1])).length) Slot.unset).toArray = ls at hl ⊢
  have hl : lv_has ls 4 [(0, .ref (G.2.2 6 t)), (1, .int a0), (2, .int a1)] := hl
  unfold f_X1_make at h
  refine lv_aload_n F.1 F.2.1 dX1_make_0 rfl (lv_at hl 0 rfl) ?_
  refine lv_iload_n F.1 F.2.1 dX1_make_1 rfl (lv_at hl 1 rfl) ?_
  refine rw_put ndC (q0 := 6 + t) (x := a0) F hK hW hS (idC_6 _ ht) rfl rfl in_X1_make_X1 tyX1 tyX1_ok nmX1 13 (by decide) lk_X1_make_44 rfl (ty := .int) (by decide +kernel) rfl rfl (Nat.le_of_ble_eq_true rfl) rfl dX1_make_2 (fun H locs S_1 eS_1 hW hS => ?_)
  have h := lt_n eS_1 h
  refine lv_iconst (v := 0) F.1 F.2.1 dX1_make_5 (by decide) ?_
  refine lv_istore_n (lv' := [(3, .int 0), (0, .ref (G.2.2 6 t)), (1, .int a0), (2, .int a1)]) F.1 F.2.1 dX1_make_6 rfl hl (by decide) rfl (fun ls hl => ?_)
  refine w_X1_make_7 F hr hlk hK t ht out   5000 _ _ _ _ _ _  hW hS (lv_sub hl [1, 3, 0] rfl) h
/-! CellCover.cover(I)I -/
abbrev rm_X8_cover : Room := { frames := 5, cells := 0, slots := 0, locals := 121 }
theorem in_X8_cover_X8 : ∀ w ∈ wsX80, w ∈ wsX8_cover := by decide +kernel
theorem lk_X8_cover_51 : Cond.fieldLink RX8 51 "CellCover" "told" "LCellCover$Cover;" ∈ wsX8_cover := by decide +kernel
theorem lk_X8_cover_65 : Cond.fieldLink RX8 65 "CellCover" "covered" "Z" ∈ wsX8_cover := by decide +kernel
set_option maxHeartbeats 4000000 in
set_option maxRecDepth 100000 in
theorem w_X8_cover_52 {p : Program} {l : Launch} {e : Env} {s : State} {m : MethodId} {args : Array Value} {below : List Frame} {meth : Method} {c : Code} {G : GT} {A : Nat → Prop} (F : CallFix p m c cX8_cover 3 s args wsX8_cover RX8) (hr : meth.sig.returnType = (some .int)) (hlk : meth.locks = false) (hK : va_K G.1 vwCl (tyl G) s) (out : Int32 × St) : ∀ (S : St) (y0 : Int32) (H : Heap) (locs : List Loc) (ls : Array Slot), Wd shC idsC G A S H → va_S A s.heap H locs → lv_has ls 3 [] → j_X8_cover_52 S y0 = some out → W p l e rm_X8_cover s m args below meth c H locs 0 0 (MQ below (QI shC idsC G A out) args s 0 0 A) (F0 m 52 ls [.int y0]) := by
  intro S y0 H locs ls hW hS hl h
  unfold j_X8_cover_52 at h
  exact rw_ret F hr hlk hK hW hS h dX8_cover_52
set_option maxHeartbeats 4000000 in
set_option maxRecDepth 100000 in
theorem w_X8_cover_34 {p : Program} {l : Launch} {e : Env} {s : State} {m : MethodId} {args : Array Value} {below : List Frame} {meth : Method} {c : Code} {G : GT} {A : Nat → Prop} (F : CallFix p m c cX8_cover 3 s args wsX8_cover RX8) (hr : meth.sig.returnType = (some .int)) (hlk : meth.locks = false) (hK : va_K G.1 vwCl (tyl G) s) (out : Int32 × St) : ∀ (S : St) (x2 : Int32) (y1 : Int32) (H : Heap) (locs : List Loc) (ls : Array Slot), Wd shC idsC G A S H → va_S A s.heap H locs → lv_has ls 3 [(0, .ref (G.2.2 0 0)), (2, .int x2)] → j_X8_cover_34 S x2 y1 = some out → W p l e rm_X8_cover s m args below meth c H locs 0 0 (MQ below (QI shC idsC G A out) args s 0 0 A) (F0 m 34 ls [.int y1, .ref (G.2.2 0 0)]) := by
  intro S x2 y1 H locs ls hW hS hl h
  unfold j_X8_cover_34 at h
  obtain ⟨b_7, h⟩ := gd_some h
  refine rw_put ndC (q0 := 0) (x := y1) F hK hW hS idC_0 rfl rfl in_X8_cover_X8 tyX8 tyX8_ok nmX8 8 (by decide) lk_X8_cover_65 rfl (ty := .boolean) (by decide +kernel) (bz_n b_7) (bz_f b_7) (Nat.le_of_ble_eq_true rfl) rfl dX8_cover_34 (fun H locs S_6 eS_6 hW hS => ?_)
  have h := lt_n eS_6 h
  refine lv_aload_n F.1 F.2.1 dX8_cover_37 rfl (lv_at hl 0 rfl) ?_
  refine rw_get (q0 := 0) F hK hW idC_0 rfl rfl in_X8_cover_X8 8 (by decide) lk_X8_cover_65 rfl dX8_cover_38 ?_
  refine lv_if_eq (tgt := 48) F.1 F.2.1 dX8_cover_41 (by decide) (fun c_8 => ?_) (fun c_8 => ?_)
  · have h := (if_pos c_8).symm.trans h
    refine lv_bipush (v := -100) F.1 F.2.1 dX8_cover_48 (by decide) ?_
    refine lv_iload_n F.1 F.2.1 dX8_cover_50 rfl (lv_at hl 1 rfl) ?_
    refine lv_isub F.1 F.2.1 dX8_cover_51 ?_
    exact w_X8_cover_52 F hr hlk hK out  _ _ _ _ _  hW hS (lv_sub hl [] rfl) h
  · have h := (if_neg c_8).symm.trans h
    refine lv_iconst (v := 0) F.1 F.2.1 dX8_cover_44 (by decide) ?_
    refine lv_goto (tgt := 52) F.1 F.2.1 dX8_cover_45 (by decide) ?_
    exact w_X8_cover_52 F hr hlk hK out  _ _ _ _ _  hW hS (lv_sub hl [] rfl) h
set_option maxHeartbeats 4000000 in
set_option maxRecDepth 100000 in
theorem w_X8_cover_11 {p : Program} {l : Launch} {e : Env} {s : State} {m : MethodId} {args : Array Value} {below : List Frame} {meth : Method} {c : Code} {G : GT} {A : Nat → Prop} (F : CallFix p m c cX8_cover 3 s args wsX8_cover RX8) (hr : meth.sig.returnType = (some .int)) (hlk : meth.locks = false) (hK : va_K G.1 vwCl (tyl G) s) (out : Int32 × St) : ∀ (S : St) (x1 : Int32) (H : Heap) (locs : List Loc) (ls : Array Slot), Wd shC idsC G A S H → va_S A s.heap H locs → lv_has ls 3 [(0, .ref (G.2.2 0 0)), (1, .int x1)] → j_X8_cover_11 S x1 = some out → W p l e rm_X8_cover s m args below meth c H locs 0 0 (MQ below (QI shC idsC G A out) args s 0 0 A) (F0 m 11 ls []) := by
  intro S x1 H locs ls hW hS hl h
  unfold j_X8_cover_11 at h
  refine lv_aload_n F.1 F.2.1 dX8_cover_11 rfl (lv_at hl 0 rfl) ?_
  refine rw_get (q0 := 0) F hK hW idC_0 rfl rfl in_X8_cover_X8 5 (by decide) lk_X8_cover_51 rfl dX8_cover_12 ?_
  refine lv_iload_n F.1 F.2.1 dX8_cover_15 rfl (lv_at hl 1 rfl) ?_
  refine lv_bipush (v := -4) F.1 F.2.1 dX8_cover_16 (by decide) ?_
  obtain ⟨r_3, S_4, hq_2, h⟩ := bi_some h
  refine rw_vi F hK hW hS [.int x1, .int ((-4))] (rest := []) (c_X1_make l G A 0 (by decide) x1 ((-4)) S (r_3, S_4) hq_2) (cwV 2 F.2.2.2.2 gX8_cover_X1_make rfl rfl rfl (by decide +kernel) ⟨Nat.le_of_ble_eq_true rfl, Nat.le_of_ble_eq_true rfl⟩) (rw_recv (q0 := 6 + 0) hK hW (idC_6 0 (by decide)) rfl rfl) rfl hl.1 rfl (Nat.le_of_ble_eq_true rfl) dX8_cover_18 (fun H locs hW hS => ?_)
  refine lv_istore_n (lv' := [(2, .int r_3), (0, .ref (G.2.2 0 0)), (1, .int x1)]) F.1 F.2.1 dX8_cover_21 rfl hl (by decide) rfl (fun ls hl => ?_)
  refine lv_aload_n F.1 F.2.1 dX8_cover_22 rfl (lv_at hl 1 rfl) ?_
  refine lv_iload_n F.1 F.2.1 dX8_cover_23 rfl (lv_at hl 0 rfl) ?_
  refine lv_bipush (v := -4) F.1 F.2.1 dX8_cover_24 (by decide) ?_
  refine lv_icmp_ne (tgt := 33) F.1 F.2.1 dX8_cover_26 (by decide) (fun c_5 => ?_) (fun c_5 => ?_)
  · have h := (if_neg c_5).symm.trans h
    refine lv_iconst (v := 0) F.1 F.2.1 dX8_cover_33 (by decide) ?_
    exact w_X8_cover_34 F hr hlk hK out  _ _ _ _ _ _  hW hS (lv_sub hl [1, 0] rfl) h
  · have h := (if_pos c_5).symm.trans h
    refine lv_iconst (v := 1) F.1 F.2.1 dX8_cover_29 (by decide) ?_
    refine lv_goto (tgt := 34) F.1 F.2.1 dX8_cover_30 (by decide) ?_
    exact w_X8_cover_34 F hr hlk hK out  _ _ _ _ _ _  hW hS (lv_sub hl [1, 0] rfl) h
set_option maxHeartbeats 4000000 in
set_option maxRecDepth 100000 in
theorem c_X8_cover (l : Launch) (G : GT) (A : Nat → Prop) (a0 : Int32) (S : St) (out : Int32 × St) (h : f_X8_cover a0 S = some out) : Met l yX8_cover wsX8_cover rm_X8_cover (va_Pc [.ref (G.2.2 0 0), .int a0] (WD shC idsC G A S)) (QI shC idsC G A out) 0 0 A := by
  refine Met.ofW (cc := cX8_cover) (maxL := 3) (ret := (some .int)) (by decide) rfl ?_
  intro p e s m args below meth c s₁ B hml hv
  obtain ⟨rfl, hW, hK⟩ := hv
  have F : CallFix p m c cX8_cover 3 s _ wsX8_cover RX8 := ⟨B.exec, B.bytes, hml, findClass_of_methodNamed B.named, atoms_spec (ws := wsX8_cover) B.pre⟩
  have hr := B.returns
  have hlk := B.notSynchronized
  have hS : va_S A s.heap s.heap [] := va_S.rf
  have hl := lv_entry ([.ref (G.2.2 0 0), .int a0]) (n := 3) (Nat.le_of_ble_eq_true rfl)
  rw [lg_entry_eq]
  generalize (lg_sl ([.ref (G.2.2 0 0), .int a0]) ++ List.replicate (3 - (lg_sl ([.ref (G.2.2 0 0), .int a0])).length) Slot.unset).toArray = ls at hl ⊢
  have hl : lv_has ls 3 [(0, .ref (G.2.2 0 0)), (1, .int a0)] := hl
  unfold f_X8_cover at h
  refine lv_iload_n F.1 F.2.1 dX8_cover_0 rfl (lv_at hl 1 rfl) ?_
  refine lv_if_eq (tgt := 11) F.1 F.2.1 dX8_cover_1 (by decide) (fun c_1 => ?_) (fun c_1 => ?_)
  · have h := (if_pos c_1).symm.trans h
    exact w_X8_cover_11 F hr hlk hK out  _ _ _ _ _  hW hS hl h
  · have h := (if_neg c_1).symm.trans h
    refine lv_iload_n F.1 F.2.1 dX8_cover_4 rfl (lv_at hl 1 rfl) ?_
    refine lv_iconst (v := 1) F.1 F.2.1 dX8_cover_5 (by decide) ?_
    refine lv_icmp_eq (tgt := 11) F.1 F.2.1 dX8_cover_6 (by decide) (fun c_9 => ?_) (fun c_9 => ?_)
    · have h := (if_pos c_9).symm.trans h
      exact w_X8_cover_11 F hr hlk hK out  _ _ _ _ _  hW hS hl h
    · have h := (if_neg c_9).symm.trans h
      refine lv_iconst (v := -1) F.1 F.2.1 dX8_cover_9 (by decide) ?_
      exact rw_ret F hr hlk hK hW hS h dX8_cover_10
/-! CellCover.best(II)I -/
abbrev rm_X8_best : Room := { frames := 2, cells := 0, slots := 0, locals := 42 }
theorem in_X8_best_X8 : ∀ w ∈ wsX80, w ∈ wsX8_best := by decide +kernel
theorem in_X8_best_X1 : ∀ w ∈ wsX10, w ∈ wsX8_best := by decide +kernel
theorem lk_X8_best_12 : Cond.fieldLink RX8 12 "CellCover" "vertices" "LCellCover$Vertices;" ∈ wsX8_best := by decide +kernel
theorem lk_X8_best_65 : Cond.fieldLink RX8 65 "CellCover" "covered" "Z" ∈ wsX8_best := by decide +kernel
theorem lk_X8_best_51 : Cond.fieldLink RX8 51 "CellCover" "told" "LCellCover$Cover;" ∈ wsX8_best := by decide +kernel
theorem lk_X8_best_200 : Cond.fieldLink RX8 200 "CellCover$Cover" "areaOf" "[I" ∈ wsX8_best := by decide +kernel
theorem lk_X8_best_203 : Cond.fieldLink RX8 203 "CellCover$Cover" "arrivalOf" "[I" ∈ wsX8_best := by decide +kernel
theorem lk_X8_best_206 : Cond.fieldLink RX8 206 "CellCover$Cover" "cellOf" "[I" ∈ wsX8_best := by decide +kernel
set_option maxHeartbeats 4000000 in
set_option maxRecDepth 100000 in
theorem w_X8_best_21 {p : Program} {l : Launch} {e : Env} {s : State} {m : MethodId} {args : Array Value} {below : List Frame} {meth : Method} {c : Code} {G : GT} {A : Nat → Prop} (F : CallFix p m c cX8_best 3 s args wsX8_best RX8) (hr : meth.sig.returnType = (some .int)) (hlk : meth.locks = false) (hK : va_K G.1 vwCl (tyl G) s) (out : Int32 × St) : ∀ (S : St) (H : Heap) (locs : List Loc) (ls : Array Slot), Wd shC idsC G A S H → va_S A s.heap H locs → lv_has ls 3 [] → j_X8_best_21 S = some out → W p l e rm_X8_best s m args below meth c H locs 0 0 (MQ below (QI shC idsC G A out) args s 0 0 A) (F0 m 21 ls []) := by
  intro S H locs ls hW hS hl h
  unfold j_X8_best_21 at h
  refine lv_iconst (v := -1) F.1 F.2.1 dX8_best_21 (by decide) ?_
  exact rw_ret F hr hlk hK hW hS h dX8_best_22
set_option maxHeartbeats 4000000 in
set_option maxRecDepth 100000 in
theorem w_X8_best_55 {p : Program} {l : Launch} {e : Env} {s : State} {m : MethodId} {args : Array Value} {below : List Frame} {meth : Method} {c : Code} {G : GT} {A : Nat → Prop} (F : CallFix p m c cX8_best 3 s args wsX8_best RX8) (hr : meth.sig.returnType = (some .int)) (hlk : meth.locks = false) (hK : va_K G.1 vwCl (tyl G) s) (out : Int32 × St) : ∀ (S : St) (H : Heap) (locs : List Loc) (ls : Array Slot), Wd shC idsC G A S H → va_S A s.heap H locs → lv_has ls 3 [] → j_X8_best_55 S = some out → W p l e rm_X8_best s m args below meth c H locs 0 0 (MQ below (QI shC idsC G A out) args s 0 0 A) (F0 m 55 ls []) := by
  intro S H locs ls hW hS hl h
  unfold j_X8_best_55 at h
  refine lv_bipush (v := -4) F.1 F.2.1 dX8_best_55 (by decide) ?_
  exact rw_ret F hr hlk hK hW hS h dX8_best_57
set_option maxHeartbeats 4000000 in
set_option maxRecDepth 100000 in
theorem c_X8_best (l : Launch) (G : GT) (A : Nat → Prop) (a0 : Int32) (a1 : Int32) (S : St) (out : Int32 × St) (h : f_X8_best a0 a1 S = some out) : Met l yX8_best wsX8_best rm_X8_best (va_Pc [.ref (G.2.2 0 0), .int a0, .int a1] (WD shC idsC G A S)) (QI shC idsC G A out) 0 0 A := by
  refine Met.ofW (cc := cX8_best) (maxL := 3) (ret := (some .int)) (by decide) rfl ?_
  intro p e s m args below meth c s₁ B hml hv
  obtain ⟨rfl, hW, hK⟩ := hv
  have F : CallFix p m c cX8_best 3 s _ wsX8_best RX8 := ⟨B.exec, B.bytes, hml, findClass_of_methodNamed B.named, atoms_spec (ws := wsX8_best) B.pre⟩
  have hr := B.returns
  have hlk := B.notSynchronized
  have hS : va_S A s.heap s.heap [] := va_S.rf
  have hl := lv_entry ([.ref (G.2.2 0 0), .int a0, .int a1]) (n := 3) (Nat.le_of_ble_eq_true rfl)
  rw [lg_entry_eq]
  generalize (lg_sl ([.ref (G.2.2 0 0), .int a0, .int a1]) ++ List.replicate (3 - (lg_sl ([.ref (G.2.2 0 0), .int a0, .int a1])).length) Slot.unset).toArray = ls at hl ⊢
  have hl : lv_has ls 3 [(0, .ref (G.2.2 0 0)), (1, .int a0), (2, .int a1)] := hl
  unfold f_X8_best at h
  refine lv_aload_n F.1 F.2.1 dX8_best_0 rfl (lv_at hl 0 rfl) ?_
  refine rw_get (q0 := 0) F hK hW idC_0 rfl rfl in_X8_best_X8 0 (by decide) lk_X8_best_12 rfl dX8_best_1 ?_
  refine lv_iload_n F.1 F.2.1 dX8_best_4 rfl (lv_at hl 1 rfl) ?_
  obtain ⟨r_2, S_3, hq_1, h⟩ := bi_some h
  refine rw_vi F hK hW hS [.int a0] (rest := []) (c_X7_has l G A a0 S (r_2, S_3) hq_1) (cwV 1 F.2.2.2.2 gX8_best_X7_has rfl rfl rfl (by decide +kernel) ⟨Nat.le_of_ble_eq_true rfl, Nat.le_of_ble_eq_true rfl⟩) (rw_recv (q0 := 1) hK hW idC_1 rfl rfl) rfl hl.1 rfl (Nat.le_of_ble_eq_true rfl) dX8_best_5 (fun H locs hW hS => ?_)
  refine lv_if_eq (tgt := 21) F.1 F.2.1 dX8_best_8 (by decide) (fun c_4 => ?_) (fun c_4 => ?_)
  · have h := (if_pos c_4).symm.trans h
    exact w_X8_best_21 F hr hlk hK out  _ _ _ _  hW hS (lv_sub hl [] rfl) h
  · have h := (if_neg c_4).symm.trans h
    refine lv_iload_n F.1 F.2.1 dX8_best_11 rfl (lv_at hl 2 rfl) ?_
    refine lv_if_lt (tgt := 21) F.1 F.2.1 dX8_best_12 (by decide) (fun c_5 => ?_) (fun c_5 => ?_)
    · have h := (if_pos c_5).symm.trans h
      exact w_X8_best_21 F hr hlk hK out  _ _ _ _  hW hS (lv_sub hl [] rfl) h
    · have h := (if_neg c_5).symm.trans h
      refine lv_iload_n F.1 F.2.1 dX8_best_15 rfl (lv_at hl 2 rfl) ?_
      refine lv_bipush (v := 8) F.1 F.2.1 dX8_best_16 (by decide) ?_
      refine lv_icmp_le (tgt := 23) F.1 F.2.1 dX8_best_18 (by decide) (fun c_6 => ?_) (fun c_6 => ?_)
      · have h := (if_pos c_6).symm.trans h
        refine lv_aload_n F.1 F.2.1 dX8_best_23 rfl (lv_at hl 0 rfl) ?_
        refine rw_get (q0 := 0) F hK hW idC_0 rfl rfl in_X8_best_X8 8 (by decide) lk_X8_best_65 rfl dX8_best_24 ?_
        refine lv_if_ne (tgt := 33) F.1 F.2.1 dX8_best_27 (by decide) (fun c_7 => ?_) (fun c_7 => ?_)
        · have h := (if_neg c_7).symm.trans h
          refine lv_aload_n F.1 F.2.1 dX8_best_33 rfl (lv_at hl 0 rfl) ?_
          refine rw_get (q0 := 0) F hK hW idC_0 rfl rfl in_X8_best_X8 0 (by decide) lk_X8_best_12 rfl dX8_best_34 ?_
          refine lv_iload_n F.1 F.2.1 dX8_best_37 rfl (lv_at hl 1 rfl) ?_
          obtain ⟨r_9, S_10, hq_8, h⟩ := bi_some h
          refine rw_vi F hK hW hS [.int a0] (rest := []) (c_X7_isAlive l G A a0 S_3 (r_9, S_10) hq_8) (cwV 1 F.2.2.2.2 gX8_best_X7_isAlive rfl rfl rfl (by decide +kernel) ⟨Nat.le_of_ble_eq_true rfl, Nat.le_of_ble_eq_true rfl⟩) (rw_recv (q0 := 1) hK hW idC_1 rfl rfl) rfl hl.1 rfl (Nat.le_of_ble_eq_true rfl) dX8_best_38 (fun H locs hW hS => ?_)
          refine lv_if_eq (tgt := 55) F.1 F.2.1 dX8_best_41 (by decide) (fun c_11 => ?_) (fun c_11 => ?_)
          · have h := (if_pos c_11).symm.trans h
            exact w_X8_best_55 F hr hlk hK out  _ _ _ _  hW hS (lv_sub hl [] rfl) h
          · have h := (if_neg c_11).symm.trans h
            refine lv_aload_n F.1 F.2.1 dX8_best_44 rfl (lv_at hl 0 rfl) ?_
            refine rw_get (q0 := 0) F hK hW idC_0 rfl rfl in_X8_best_X8 5 (by decide) lk_X8_best_51 rfl dX8_best_45 ?_
            refine lv_iload_n F.1 F.2.1 dX8_best_48 rfl (lv_at hl 1 rfl) ?_
            obtain ⟨r_13, S_14, hq_12, h⟩ := bi_some h
            refine rw_vi F hK hW hS [.int a0] (rest := []) (c_X1_hasOne l G A 0 (by decide) a0 S_10 (r_13, S_14) hq_12) (cwV 1 F.2.2.2.2 gX8_best_X1_hasOne rfl rfl rfl (by decide +kernel) ⟨Nat.le_of_ble_eq_true rfl, Nat.le_of_ble_eq_true rfl⟩) (rw_recv (q0 := 6 + 0) hK hW (idC_6 0 (by decide)) rfl rfl) rfl hl.1 rfl (Nat.le_of_ble_eq_true rfl) dX8_best_49 (fun H locs hW hS => ?_)
            refine lv_if_ne (tgt := 58) F.1 F.2.1 dX8_best_52 (by decide) (fun c_15 => ?_) (fun c_15 => ?_)
            · have h := (if_neg c_15).symm.trans h
              refine lv_iload_n F.1 F.2.1 dX8_best_58 rfl (lv_at hl 2 rfl) ?_
              by_cases c_16 : a1 = 0
              · have h := (if_pos c_16).symm.trans h
                refine lv_tableIn (off := 25) (tgt := 84) F.1 F.2.1 dX8_best_59 (by rw [c_16]; decide) (by rw [c_16]; decide) (by rw [c_16]; rfl) (by decide) ?_
                refine lv_aload_n F.1 F.2.1 dX8_best_84 rfl (lv_at hl 0 rfl) ?_
                refine rw_get (q0 := 0) F hK hW idC_0 rfl rfl in_X8_best_X8 5 (by decide) lk_X8_best_51 rfl dX8_best_85 ?_
                refine rw_get (q0 := 6 + 0) F hK hW (idC_6 0 (by decide)) rfl rfl in_X8_best_X1 3 (by decide) lk_X8_best_200 rfl dX8_best_88 ?_
                refine lv_iload_n F.1 F.2.1 dX8_best_91 rfl (lv_at hl 1 rfl) ?_
                obtain ⟨b_17, h⟩ := gd_some h
                refine rw_iald (q0 := 47 + 0) F hK hW (idC_27 0 (by decide)) (fun _ => rfl) (ix_in b_17) dX8_best_92 ?_
                refine lv_topi (fun v_18 ev_18 => ?_)
                have h := lt_n ev_18 h
                exact rw_ret F hr hlk hK hW hS h dX8_best_93
              · have h := (if_neg c_16).symm.trans h
                by_cases c_19 : a1 = 1
                · have h := (if_pos c_19).symm.trans h
                  refine lv_tableIn (off := 35) (tgt := 94) F.1 F.2.1 dX8_best_59 (by rw [c_19]; decide) (by rw [c_19]; decide) (by rw [c_19]; rfl) (by decide) ?_
                  refine lv_aload_n F.1 F.2.1 dX8_best_94 rfl (lv_at hl 0 rfl) ?_
                  refine rw_get (q0 := 0) F hK hW idC_0 rfl rfl in_X8_best_X8 5 (by decide) lk_X8_best_51 rfl dX8_best_95 ?_
                  refine rw_get (q0 := 6 + 0) F hK hW (idC_6 0 (by decide)) rfl rfl in_X8_best_X1 4 (by decide) lk_X8_best_203 rfl dX8_best_98 ?_
                  refine lv_iload_n F.1 F.2.1 dX8_best_101 rfl (lv_at hl 1 rfl) ?_
                  obtain ⟨b_20, h⟩ := gd_some h
                  refine rw_iald (q0 := 49 + 0) F hK hW (idC_28 0 (by decide)) (fun _ => rfl) (ix_in b_20) dX8_best_102 ?_
                  refine lv_topi (fun v_21 ev_21 => ?_)
                  have h := lt_n ev_21 h
                  exact rw_ret F hr hlk hK hW hS h dX8_best_103
                · have h := (if_neg c_19).symm.trans h
                  by_cases c_22 : a1 = 2
                  · have h := (if_pos c_22).symm.trans h
                    refine lv_tableIn (off := 45) (tgt := 104) F.1 F.2.1 dX8_best_59 (by rw [c_22]; decide) (by rw [c_22]; decide) (by rw [c_22]; rfl) (by decide) ?_
                    refine lv_aload_n F.1 F.2.1 dX8_best_104 rfl (lv_at hl 0 rfl) ?_
                    refine rw_get (q0 := 0) F hK hW idC_0 rfl rfl in_X8_best_X8 5 (by decide) lk_X8_best_51 rfl dX8_best_105 ?_
                    refine rw_get (q0 := 6 + 0) F hK hW (idC_6 0 (by decide)) rfl rfl in_X8_best_X1 5 (by decide) lk_X8_best_206 rfl dX8_best_108 ?_
                    refine lv_iload_n F.1 F.2.1 dX8_best_111 rfl (lv_at hl 1 rfl) ?_
                    obtain ⟨b_23, h⟩ := gd_some h
                    refine rw_iald (q0 := 51 + 0) F hK hW (idC_29 0 (by decide)) (fun _ => rfl) (ix_in b_23) dX8_best_112 ?_
                    refine lv_topi (fun v_24 ev_24 => ?_)
                    have h := lt_n ev_24 h
                    exact rw_ret F hr hlk hK hW hS h dX8_best_113
                  · have h := (if_neg c_22).symm.trans h
                    have nc_16 := lv_neT c_16 (a := 0) (by decide)
                    have nc_19 := lv_neT c_19 (a := 1) (by decide)
                    have nc_22 := lv_neT c_22 (a := 2) (by decide)
                    refine lv_tableOut (tgt := 114) F.1 F.2.1 dX8_best_59 (by omega) (by decide) ?_
                    refine lv_aload_n F.1 F.2.1 dX8_best_114 rfl (lv_at hl 0 rfl) ?_
                    refine rw_get (q0 := 0) F hK hW idC_0 rfl rfl in_X8_best_X8 5 (by decide) lk_X8_best_51 rfl dX8_best_115 ?_
                    refine lv_iload_n F.1 F.2.1 dX8_best_118 rfl (lv_at hl 1 rfl) ?_
                    refine lv_iload_n F.1 F.2.1 dX8_best_119 rfl (lv_at hl 2 rfl) ?_
                    refine lv_iconst (v := 3) F.1 F.2.1 dX8_best_120 (by decide) ?_
                    refine lv_isub F.1 F.2.1 dX8_best_121 ?_
                    obtain ⟨r_26, S_27, hq_25, h⟩ := bi_some h
                    refine rw_vi F hK hW hS [.int a0, .int (a1 - 3)] (rest := []) (c_X1_pinOf l G A 0 (by decide) a0 (a1 - 3) S_14 (r_26, S_27) hq_25) (cwV 2 F.2.2.2.2 gX8_best_X1_pinOf rfl rfl rfl (by decide +kernel) ⟨Nat.le_of_ble_eq_true rfl, Nat.le_of_ble_eq_true rfl⟩) (rw_recv (q0 := 6 + 0) hK hW (idC_6 0 (by decide)) rfl rfl) rfl hl.1 rfl (Nat.le_of_ble_eq_true rfl) dX8_best_122 (fun H locs hW hS => ?_)
                    exact rw_ret F hr hlk hK hW hS h dX8_best_125
            · have h := (if_pos c_15).symm.trans h
              exact w_X8_best_55 F hr hlk hK out  _ _ _ _  hW hS (lv_sub hl [] rfl) h
        · have h := (if_pos c_7).symm.trans h
          refine lv_bipush (v := -2) F.1 F.2.1 dX8_best_30 (by decide) ?_
          exact rw_ret F hr hlk hK hW hS h dX8_best_32
      · have h := (if_neg c_6).symm.trans h
        exact w_X8_best_21 F hr hlk hK out  _ _ _ _  hW hS (lv_sub hl [] rfl) h
/-! CellCover.instance(II)I -/
abbrev rm_X8_instance : Room := { frames := 1, cells := 0, slots := 0, locals := 22 }
theorem in_X8_instance_X8 : ∀ w ∈ wsX80, w ∈ wsX8_instance := by decide +kernel
theorem in_X8_instance_X1 : ∀ w ∈ wsX10, w ∈ wsX8_instance := by decide +kernel
theorem lk_X8_instance_65 : Cond.fieldLink RX8 65 "CellCover" "covered" "Z" ∈ wsX8_instance := by decide +kernel
theorem lk_X8_instance_51 : Cond.fieldLink RX8 51 "CellCover" "told" "LCellCover$Cover;" ∈ wsX8_instance := by decide +kernel
theorem lk_X8_instance_212 : Cond.fieldLink RX8 212 "CellCover$Cover" "instances" "I" ∈ wsX8_instance := by decide +kernel
theorem lk_X8_instance_215 : Cond.fieldLink RX8 215 "CellCover$Cover" "instanceAt" "[I" ∈ wsX8_instance := by decide +kernel
theorem lk_X8_instance_206 : Cond.fieldLink RX8 206 "CellCover$Cover" "cellOf" "[I" ∈ wsX8_instance := by decide +kernel
set_option maxHeartbeats 4000000 in
set_option maxRecDepth 100000 in
theorem w_X8_instance_10 {p : Program} {l : Launch} {e : Env} {s : State} {m : MethodId} {args : Array Value} {below : List Frame} {meth : Method} {c : Code} {G : GT} {A : Nat → Prop} (F : CallFix p m c cX8_instance 4 s args wsX8_instance RX8) (hr : meth.sig.returnType = (some .int)) (hlk : meth.locks = false) (hK : va_K G.1 vwCl (tyl G) s) (out : Int32 × St) : ∀ (S : St) (H : Heap) (locs : List Loc) (ls : Array Slot), Wd shC idsC G A S H → va_S A s.heap H locs → lv_has ls 4 [] → j_X8_instance_10 S = some out → W p l e rm_X8_instance s m args below meth c H locs 0 0 (MQ below (QI shC idsC G A out) args s 0 0 A) (F0 m 10 ls []) := by
  intro S H locs ls hW hS hl h
  unfold j_X8_instance_10 at h
  refine lv_iconst (v := -1) F.1 F.2.1 dX8_instance_10 (by decide) ?_
  exact rw_ret F hr hlk hK hW hS h dX8_instance_11
set_option maxHeartbeats 4000000 in
set_option maxRecDepth 100000 in
theorem w_X8_instance_37 {p : Program} {l : Launch} {e : Env} {s : State} {m : MethodId} {args : Array Value} {below : List Frame} {meth : Method} {c : Code} {G : GT} {A : Nat → Prop} (F : CallFix p m c cX8_instance 4 s args wsX8_instance RX8) (hr : meth.sig.returnType = (some .int)) (hlk : meth.locks = false) (hK : va_K G.1 vwCl (tyl G) s) (out : Int32 × St) : ∀ (S : St) (H : Heap) (locs : List Loc) (ls : Array Slot), Wd shC idsC G A S H → va_S A s.heap H locs → lv_has ls 4 [] → j_X8_instance_37 S = some out → W p l e rm_X8_instance s m args below meth c H locs 0 0 (MQ below (QI shC idsC G A out) args s 0 0 A) (F0 m 37 ls []) := by
  intro S H locs ls hW hS hl h
  unfold j_X8_instance_37 at h
  refine lv_bipush (v := -4) F.1 F.2.1 dX8_instance_37 (by decide) ?_
  exact rw_ret F hr hlk hK hW hS h dX8_instance_39
set_option maxHeartbeats 4000000 in
set_option maxRecDepth 100000 in
theorem c_X8_instance (l : Launch) (G : GT) (A : Nat → Prop) (a0 : Int32) (a1 : Int32) (S : St) (out : Int32 × St) (h : f_X8_instance a0 a1 S = some out) : Met l yX8_instance wsX8_instance rm_X8_instance (va_Pc [.ref (G.2.2 0 0), .int a0, .int a1] (WD shC idsC G A S)) (QI shC idsC G A out) 0 0 A := by
  refine Met.ofW (cc := cX8_instance) (maxL := 4) (ret := (some .int)) (by decide) rfl ?_
  intro p e s m args below meth c s₁ B hml hv
  obtain ⟨rfl, hW, hK⟩ := hv
  have F : CallFix p m c cX8_instance 4 s _ wsX8_instance RX8 := ⟨B.exec, B.bytes, hml, findClass_of_methodNamed B.named, atoms_spec (ws := wsX8_instance) B.pre⟩
  have hr := B.returns
  have hlk := B.notSynchronized
  have hS : va_S A s.heap s.heap [] := va_S.rf
  have hl := lv_entry ([.ref (G.2.2 0 0), .int a0, .int a1]) (n := 4) (Nat.le_of_ble_eq_true rfl)
  rw [lg_entry_eq]
  generalize (lg_sl ([.ref (G.2.2 0 0), .int a0, .int a1]) ++ List.replicate (4 - (lg_sl ([.ref (G.2.2 0 0), .int a0, .int a1])).length) Slot.unset).toArray = ls at hl ⊢
  have hl : lv_has ls 4 [(0, .ref (G.2.2 0 0)), (1, .int a0), (2, .int a1)] := hl
  unfold f_X8_instance at h
  refine lv_iload_n F.1 F.2.1 dX8_instance_0 rfl (lv_at hl 2 rfl) ?_
  refine lv_if_lt (tgt := 10) F.1 F.2.1 dX8_instance_1 (by decide) (fun c_1 => ?_) (fun c_1 => ?_)
  · have h := (if_pos c_1).symm.trans h
    exact w_X8_instance_10 F hr hlk hK out  _ _ _ _  hW hS (lv_sub hl [] rfl) h
  · have h := (if_neg c_1).symm.trans h
    refine lv_iload_n F.1 F.2.1 dX8_instance_4 rfl (lv_at hl 2 rfl) ?_
    refine lv_bipush (v := 7) F.1 F.2.1 dX8_instance_5 (by decide) ?_
    refine lv_icmp_le (tgt := 12) F.1 F.2.1 dX8_instance_7 (by decide) (fun c_2 => ?_) (fun c_2 => ?_)
    · have h := (if_pos c_2).symm.trans h
      refine lv_aload_n F.1 F.2.1 dX8_instance_12 rfl (lv_at hl 0 rfl) ?_
      refine rw_get (q0 := 0) F hK hW idC_0 rfl rfl in_X8_instance_X8 8 (by decide) lk_X8_instance_65 rfl dX8_instance_13 ?_
      refine lv_if_ne (tgt := 22) F.1 F.2.1 dX8_instance_16 (by decide) (fun c_3 => ?_) (fun c_3 => ?_)
      · have h := (if_neg c_3).symm.trans h
        refine lv_iload_n F.1 F.2.1 dX8_instance_22 rfl (lv_at hl 1 rfl) ?_
        refine lv_if_lt (tgt := 37) F.1 F.2.1 dX8_instance_23 (by decide) (fun c_4 => ?_) (fun c_4 => ?_)
        · have h := (if_pos c_4).symm.trans h
          exact w_X8_instance_37 F hr hlk hK out  _ _ _ _  hW hS (lv_sub hl [] rfl) h
        · have h := (if_neg c_4).symm.trans h
          refine lv_iload_n F.1 F.2.1 dX8_instance_26 rfl (lv_at hl 1 rfl) ?_
          refine lv_aload_n F.1 F.2.1 dX8_instance_27 rfl (lv_at hl 0 rfl) ?_
          refine rw_get (q0 := 0) F hK hW idC_0 rfl rfl in_X8_instance_X8 5 (by decide) lk_X8_instance_51 rfl dX8_instance_28 ?_
          refine rw_get (q0 := 6 + 0) F hK hW (idC_6 0 (by decide)) rfl rfl in_X8_instance_X1 11 (by decide) lk_X8_instance_212 rfl dX8_instance_31 ?_
          refine lv_icmp_lt (tgt := 40) F.1 F.2.1 dX8_instance_34 (by decide) (fun c_5 => ?_) (fun c_5 => ?_)
          · have h := (if_pos c_5).symm.trans h
            refine lv_aload_n F.1 F.2.1 dX8_instance_40 rfl (lv_at hl 0 rfl) ?_
            refine rw_get (q0 := 0) F hK hW idC_0 rfl rfl in_X8_instance_X8 5 (by decide) lk_X8_instance_51 rfl dX8_instance_41 ?_
            refine rw_get (q0 := 6 + 0) F hK hW (idC_6 0 (by decide)) rfl rfl in_X8_instance_X1 7 (by decide) lk_X8_instance_215 rfl dX8_instance_44 ?_
            refine lv_iload_n F.1 F.2.1 dX8_instance_47 rfl (lv_at hl 1 rfl) ?_
            obtain ⟨b_6, h⟩ := gd_some h
            refine rw_iald (q0 := 55 + 0) F hK hW (idC_31 0 (by decide)) (fun _ => rfl) (ix_in b_6) dX8_instance_48 ?_
            refine lv_topi (fun v_7 ev_7 => ?_)
            have h := lt_n ev_7 h
            refine lv_istore_n (lv' := [(3, .int v_7), (0, .ref (G.2.2 0 0)), (1, .int a0), (2, .int a1)]) F.1 F.2.1 dX8_instance_49 rfl hl (by decide) rfl (fun ls hl => ?_)
            refine lv_iload_n F.1 F.2.1 dX8_instance_50 rfl (lv_at hl 3 rfl) ?_
            by_cases c_8 : a1 = 0
            · have h := (if_pos c_8).symm.trans h
              refine lv_lookup (off := 25) (tgt := 76) F.1 F.2.1 dX8_instance_51 (by decide) (by rw [c_8]; rfl) (by decide) ?_
              refine lv_aload_n F.1 F.2.1 dX8_instance_76 rfl (lv_at hl 1 rfl) ?_
              refine rw_get (q0 := 0) F hK hW idC_0 rfl rfl in_X8_instance_X8 5 (by decide) lk_X8_instance_51 rfl dX8_instance_77 ?_
              refine rw_get (q0 := 6 + 0) F hK hW (idC_6 0 (by decide)) rfl rfl in_X8_instance_X1 5 (by decide) lk_X8_instance_206 rfl dX8_instance_80 ?_
              refine lv_iload_n F.1 F.2.1 dX8_instance_83 rfl (lv_at hl 0 rfl) ?_
              obtain ⟨b_9, h⟩ := gd_some h
              refine rw_iald (q0 := 51 + 0) F hK hW (idC_29 0 (by decide)) (fun _ => rfl) (ix_in b_9) dX8_instance_84 ?_
              refine lv_topi (fun v_10 ev_10 => ?_)
              have h := lt_n ev_10 h
              exact rw_ret F hr hlk hK hW hS h dX8_instance_85
            · have h := (if_neg c_8).symm.trans h
              by_cases c_11 : a1 = 1
              · have h := (if_pos c_11).symm.trans h
                refine lv_lookup (off := 35) (tgt := 86) F.1 F.2.1 dX8_instance_51 (by decide) (by rw [c_11]; rfl) (by decide) ?_
                refine lv_iload_n F.1 F.2.1 dX8_instance_86 rfl (lv_at hl 0 rfl) ?_
                exact rw_ret F hr hlk hK hW hS h dX8_instance_87
              · have h := (if_neg c_11).symm.trans h
                refine lv_lookup (off := 37) (tgt := 88) F.1 F.2.1 dX8_instance_51 (by decide) (by rw [lv_osw c_8 (by decide)]; rw [lv_osw c_11 (by decide)]; rfl) (by decide) ?_
                refine lv_aload_n F.1 F.2.1 dX8_instance_88 rfl (lv_at hl 1 rfl) ?_
                refine rw_get (q0 := 0) F hK hW idC_0 rfl rfl in_X8_instance_X8 5 (by decide) lk_X8_instance_51 rfl dX8_instance_89 ?_
                refine lv_iload_n F.1 F.2.1 dX8_instance_92 rfl (lv_at hl 0 rfl) ?_
                refine lv_iload_n F.1 F.2.1 dX8_instance_93 rfl (lv_at hl 3 rfl) ?_
                refine lv_iconst (v := 2) F.1 F.2.1 dX8_instance_94 (by decide) ?_
                refine lv_isub F.1 F.2.1 dX8_instance_95 ?_
                obtain ⟨r_13, S_14, hq_12, h⟩ := bi_some h
                refine rw_vi F hK hW hS [.int v_7, .int (a1 - 2)] (rest := []) (c_X1_pinOf l G A 0 (by decide) v_7 (a1 - 2) S (r_13, S_14) hq_12) (cwV 2 F.2.2.2.2 gX8_instance_X1_pinOf rfl rfl rfl (by decide +kernel) ⟨Nat.le_of_ble_eq_true rfl, Nat.le_of_ble_eq_true rfl⟩) (rw_recv (q0 := 6 + 0) hK hW (idC_6 0 (by decide)) rfl rfl) rfl hl.1 rfl (Nat.le_of_ble_eq_true rfl) dX8_instance_96 (fun H locs hW hS => ?_)
                exact rw_ret F hr hlk hK hW hS h dX8_instance_99
          · have h := (if_neg c_5).symm.trans h
            exact w_X8_instance_37 F hr hlk hK out  _ _ _ _  hW hS (lv_sub hl [] rfl) h
      · have h := (if_pos c_3).symm.trans h
        refine lv_bipush (v := -2) F.1 F.2.1 dX8_instance_19 (by decide) ?_
        exact rw_ret F hr hlk hK hW hS h dX8_instance_21
    · have h := (if_neg c_2).symm.trans h
      exact w_X8_instance_10 F hr hlk hK out  _ _ _ _  hW hS (lv_sub hl [] rfl) h
/-! CellCover.area()I -/
abbrev rm_X8_area : Room := { frames := 0, cells := 0, slots := 0, locals := 0 }
theorem in_X8_area_X8 : ∀ w ∈ wsX80, w ∈ wsX8_area := by decide +kernel
theorem in_X8_area_X1 : ∀ w ∈ wsX10, w ∈ wsX8_area := by decide +kernel
theorem lk_X8_area_65 : Cond.fieldLink RX8 65 "CellCover" "covered" "Z" ∈ wsX8_area := by decide +kernel
theorem lk_X8_area_51 : Cond.fieldLink RX8 51 "CellCover" "told" "LCellCover$Cover;" ∈ wsX8_area := by decide +kernel
theorem lk_X8_area_218 : Cond.fieldLink RX8 218 "CellCover$Cover" "wholeArea" "I" ∈ wsX8_area := by decide +kernel
set_option maxHeartbeats 4000000 in
set_option maxRecDepth 100000 in
theorem w_X8_area_19 {p : Program} {l : Launch} {e : Env} {s : State} {m : MethodId} {args : Array Value} {below : List Frame} {meth : Method} {c : Code} {G : GT} {A : Nat → Prop} (F : CallFix p m c cX8_area 1 s args wsX8_area RX8) (hr : meth.sig.returnType = (some .int)) (hlk : meth.locks = false) (hK : va_K G.1 vwCl (tyl G) s) (out : Int32 × St) : ∀ (S : St) (y0 : Int32) (H : Heap) (locs : List Loc) (ls : Array Slot), Wd shC idsC G A S H → va_S A s.heap H locs → lv_has ls 1 [] → j_X8_area_19 S y0 = some out → W p l e rm_X8_area s m args below meth c H locs 0 0 (MQ below (QI shC idsC G A out) args s 0 0 A) (F0 m 19 ls [.int y0]) := by
  intro S y0 H locs ls hW hS hl h
  unfold j_X8_area_19 at h
  exact rw_ret F hr hlk hK hW hS h dX8_area_19
set_option maxHeartbeats 4000000 in
set_option maxRecDepth 100000 in
theorem c_X8_area (l : Launch) (G : GT) (A : Nat → Prop) (S : St) (out : Int32 × St) (h : f_X8_area S = some out) : Met l yX8_area wsX8_area rm_X8_area (va_Pc [.ref (G.2.2 0 0)] (WD shC idsC G A S)) (QI shC idsC G A out) 0 0 A := by
  refine Met.ofW (cc := cX8_area) (maxL := 1) (ret := (some .int)) (by decide) rfl ?_
  intro p e s m args below meth c s₁ B hml hv
  obtain ⟨rfl, hW, hK⟩ := hv
  have F : CallFix p m c cX8_area 1 s _ wsX8_area RX8 := ⟨B.exec, B.bytes, hml, findClass_of_methodNamed B.named, atoms_spec (ws := wsX8_area) B.pre⟩
  have hr := B.returns
  have hlk := B.notSynchronized
  have hS : va_S A s.heap s.heap [] := va_S.rf
  have hl := lv_entry ([.ref (G.2.2 0 0)]) (n := 1) (Nat.le_of_ble_eq_true rfl)
  rw [lg_entry_eq]
  generalize (lg_sl ([.ref (G.2.2 0 0)]) ++ List.replicate (1 - (lg_sl ([.ref (G.2.2 0 0)])).length) Slot.unset).toArray = ls at hl ⊢
  have hl : lv_has ls 1 [(0, .ref (G.2.2 0 0))] := hl
  unfold f_X8_area at h
  refine lv_aload_n F.1 F.2.1 dX8_area_0 rfl (lv_at hl 0 rfl) ?_
  refine rw_get (q0 := 0) F hK hW idC_0 rfl rfl in_X8_area_X8 8 (by decide) lk_X8_area_65 rfl dX8_area_1 ?_
  refine lv_if_eq (tgt := 17) F.1 F.2.1 dX8_area_4 (by decide) (fun c_1 => ?_) (fun c_1 => ?_)
  · have h := (if_pos c_1).symm.trans h
    refine lv_bipush (v := -2) F.1 F.2.1 dX8_area_17 (by decide) ?_
    exact w_X8_area_19 F hr hlk hK out  _ _ _ _ _  hW hS (lv_sub hl [] rfl) h
  · have h := (if_neg c_1).symm.trans h
    refine lv_aload_n F.1 F.2.1 dX8_area_7 rfl (lv_at hl 0 rfl) ?_
    refine rw_get (q0 := 0) F hK hW idC_0 rfl rfl in_X8_area_X8 5 (by decide) lk_X8_area_51 rfl dX8_area_8 ?_
    refine rw_get (q0 := 6 + 0) F hK hW (idC_6 0 (by decide)) rfl rfl in_X8_area_X1 12 (by decide) lk_X8_area_218 rfl dX8_area_11 ?_
    refine lv_goto (tgt := 19) F.1 F.2.1 dX8_area_14 (by decide) ?_
    exact w_X8_area_19 F hr hlk hK out  _ _ _ _ _  hW hS (lv_sub hl [] rfl) h
/-! CellCover.arrival(I)I -/
abbrev rm_X8_arrival : Room := { frames := 1, cells := 0, slots := 0, locals := 21 }
theorem in_X8_arrival_X8 : ∀ w ∈ wsX80, w ∈ wsX8_arrival := by decide +kernel
theorem in_X8_arrival_X5 : ∀ w ∈ wsX50, w ∈ wsX8_arrival := by decide +kernel
theorem in_X8_arrival_X1 : ∀ w ∈ wsX10, w ∈ wsX8_arrival := by decide +kernel
theorem lk_X8_arrival_19 : Cond.fieldLink RX8 19 "CellCover" "net" "LCellCover$Net;" ∈ wsX8_arrival := by decide +kernel
theorem lk_X8_arrival_103 : Cond.fieldLink RX8 103 "CellCover$Net" "outputs" "I" ∈ wsX8_arrival := by decide +kernel
theorem lk_X8_arrival_65 : Cond.fieldLink RX8 65 "CellCover" "covered" "Z" ∈ wsX8_arrival := by decide +kernel
theorem lk_X8_arrival_51 : Cond.fieldLink RX8 51 "CellCover" "told" "LCellCover$Cover;" ∈ wsX8_arrival := by decide +kernel
theorem lk_X8_arrival_203 : Cond.fieldLink RX8 203 "CellCover$Cover" "arrivalOf" "[I" ∈ wsX8_arrival := by decide +kernel
set_option maxHeartbeats 4000000 in
set_option maxRecDepth 100000 in
theorem w_X8_arrival_15 {p : Program} {l : Launch} {e : Env} {s : State} {m : MethodId} {args : Array Value} {below : List Frame} {meth : Method} {c : Code} {G : GT} {A : Nat → Prop} (F : CallFix p m c cX8_arrival 2 s args wsX8_arrival RX8) (hr : meth.sig.returnType = (some .int)) (hlk : meth.locks = false) (hK : va_K G.1 vwCl (tyl G) s) (out : Int32 × St) : ∀ (S : St) (H : Heap) (locs : List Loc) (ls : Array Slot), Wd shC idsC G A S H → va_S A s.heap H locs → lv_has ls 2 [] → j_X8_arrival_15 S = some out → W p l e rm_X8_arrival s m args below meth c H locs 0 0 (MQ below (QI shC idsC G A out) args s 0 0 A) (F0 m 15 ls []) := by
  intro S H locs ls hW hS hl h
  unfold j_X8_arrival_15 at h
  refine lv_iconst (v := -1) F.1 F.2.1 dX8_arrival_15 (by decide) ?_
  exact rw_ret F hr hlk hK hW hS h dX8_arrival_16
set_option maxHeartbeats 4000000 in
set_option maxRecDepth 100000 in
theorem w_X8_arrival_45 {p : Program} {l : Launch} {e : Env} {s : State} {m : MethodId} {args : Array Value} {below : List Frame} {meth : Method} {c : Code} {G : GT} {A : Nat → Prop} (F : CallFix p m c cX8_arrival 2 s args wsX8_arrival RX8) (hr : meth.sig.returnType = (some .int)) (hlk : meth.locks = false) (hK : va_K G.1 vwCl (tyl G) s) (out : Int32 × St) : ∀ (S : St) (y0 : Int32) (H : Heap) (locs : List Loc) (ls : Array Slot), Wd shC idsC G A S H → va_S A s.heap H locs → lv_has ls 2 [] → j_X8_arrival_45 S y0 = some out → W p l e rm_X8_arrival s m args below meth c H locs 0 0 (MQ below (QI shC idsC G A out) args s 0 0 A) (F0 m 45 ls [.int y0]) := by
  intro S y0 H locs ls hW hS hl h
  unfold j_X8_arrival_45 at h
  exact rw_ret F hr hlk hK hW hS h dX8_arrival_45
set_option maxHeartbeats 4000000 in
set_option maxRecDepth 100000 in
theorem c_X8_arrival (l : Launch) (G : GT) (A : Nat → Prop) (a0 : Int32) (S : St) (out : Int32 × St) (h : f_X8_arrival a0 S = some out) : Met l yX8_arrival wsX8_arrival rm_X8_arrival (va_Pc [.ref (G.2.2 0 0), .int a0] (WD shC idsC G A S)) (QI shC idsC G A out) 0 0 A := by
  refine Met.ofW (cc := cX8_arrival) (maxL := 2) (ret := (some .int)) (by decide) rfl ?_
  intro p e s m args below meth c s₁ B hml hv
  obtain ⟨rfl, hW, hK⟩ := hv
  have F : CallFix p m c cX8_arrival 2 s _ wsX8_arrival RX8 := ⟨B.exec, B.bytes, hml, findClass_of_methodNamed B.named, atoms_spec (ws := wsX8_arrival) B.pre⟩
  have hr := B.returns
  have hlk := B.notSynchronized
  have hS : va_S A s.heap s.heap [] := va_S.rf
  have hl := lv_entry ([.ref (G.2.2 0 0), .int a0]) (n := 2) (Nat.le_of_ble_eq_true rfl)
  rw [lg_entry_eq]
  generalize (lg_sl ([.ref (G.2.2 0 0), .int a0]) ++ List.replicate (2 - (lg_sl ([.ref (G.2.2 0 0), .int a0])).length) Slot.unset).toArray = ls at hl ⊢
  have hl : lv_has ls 2 [(0, .ref (G.2.2 0 0)), (1, .int a0)] := hl
  unfold f_X8_arrival at h
  refine lv_iload_n F.1 F.2.1 dX8_arrival_0 rfl (lv_at hl 1 rfl) ?_
  refine lv_if_lt (tgt := 15) F.1 F.2.1 dX8_arrival_1 (by decide) (fun c_1 => ?_) (fun c_1 => ?_)
  · have h := (if_pos c_1).symm.trans h
    exact w_X8_arrival_15 F hr hlk hK out  _ _ _ _  hW hS (lv_sub hl [] rfl) h
  · have h := (if_neg c_1).symm.trans h
    refine lv_iload_n F.1 F.2.1 dX8_arrival_4 rfl (lv_at hl 1 rfl) ?_
    refine lv_aload_n F.1 F.2.1 dX8_arrival_5 rfl (lv_at hl 0 rfl) ?_
    refine rw_get (q0 := 0) F hK hW idC_0 rfl rfl in_X8_arrival_X8 1 (by decide) lk_X8_arrival_19 rfl dX8_arrival_6 ?_
    refine rw_get (q0 := 2) F hK hW idC_2 rfl rfl in_X8_arrival_X5 10 (by decide) lk_X8_arrival_103 rfl dX8_arrival_9 ?_
    refine lv_icmp_lt (tgt := 17) F.1 F.2.1 dX8_arrival_12 (by decide) (fun c_2 => ?_) (fun c_2 => ?_)
    · have h := (if_pos c_2).symm.trans h
      refine lv_aload_n F.1 F.2.1 dX8_arrival_17 rfl (lv_at hl 0 rfl) ?_
      refine rw_get (q0 := 0) F hK hW idC_0 rfl rfl in_X8_arrival_X8 8 (by decide) lk_X8_arrival_65 rfl dX8_arrival_18 ?_
      refine lv_if_eq (tgt := 43) F.1 F.2.1 dX8_arrival_21 (by decide) (fun c_3 => ?_) (fun c_3 => ?_)
      · have h := (if_pos c_3).symm.trans h
        refine lv_bipush (v := -2) F.1 F.2.1 dX8_arrival_43 (by decide) ?_
        exact w_X8_arrival_45 F hr hlk hK out  _ _ _ _ _  hW hS (lv_sub hl [] rfl) h
      · have h := (if_neg c_3).symm.trans h
        refine lv_aload_n F.1 F.2.1 dX8_arrival_24 rfl (lv_at hl 0 rfl) ?_
        refine rw_get (q0 := 0) F hK hW idC_0 rfl rfl in_X8_arrival_X8 5 (by decide) lk_X8_arrival_51 rfl dX8_arrival_25 ?_
        refine rw_get (q0 := 6 + 0) F hK hW (idC_6 0 (by decide)) rfl rfl in_X8_arrival_X1 4 (by decide) lk_X8_arrival_203 rfl dX8_arrival_28 ?_
        refine lv_aload_n F.1 F.2.1 dX8_arrival_31 rfl (lv_at hl 0 rfl) ?_
        refine rw_get (q0 := 0) F hK hW idC_0 rfl rfl in_X8_arrival_X8 1 (by decide) lk_X8_arrival_19 rfl dX8_arrival_32 ?_
        refine lv_iload_n F.1 F.2.1 dX8_arrival_35 rfl (lv_at hl 1 rfl) ?_
        obtain ⟨r_5, S_6, hq_4, h⟩ := bi_some h
        refine rw_vi F hK hW hS [.int a0] (rest := [.ref (G.2.2 28 0)]) (c_X5_outputVertex l G A a0 S (r_5, S_6) hq_4) (cwV 1 F.2.2.2.2 gX8_arrival_X5_outputVertex rfl rfl rfl (by decide +kernel) ⟨Nat.le_of_ble_eq_true rfl, Nat.le_of_ble_eq_true rfl⟩) (rw_recv (q0 := 2) hK hW idC_2 rfl rfl) rfl hl.1 rfl (Nat.le_of_ble_eq_true rfl) dX8_arrival_36 (fun H locs hW hS => ?_)
        obtain ⟨b_7, h⟩ := gd_some h
        refine rw_iald (q0 := 49 + 0) F hK hW (idC_28 0 (by decide)) (fun _ => rfl) (ix_in b_7) dX8_arrival_39 ?_
        refine lv_topi (fun v_8 ev_8 => ?_)
        have h := lt_n ev_8 h
        refine lv_goto (tgt := 45) F.1 F.2.1 dX8_arrival_40 (by decide) ?_
        exact w_X8_arrival_45 F hr hlk hK out  _ _ _ _ _  hW hS (lv_sub hl [] rfl) h
    · have h := (if_neg c_2).symm.trans h
      exact w_X8_arrival_15 F hr hlk hK out  _ _ _ _  hW hS (lv_sub hl [] rfl) h
/-! CellCover.worth(I)I -/
abbrev rm_X8_worth : Room := { frames := 5, cells := 0, slots := 0, locals := 121 }
theorem in_X8_worth_X8 : ∀ w ∈ wsX80, w ∈ wsX8_worth := by decide +kernel
theorem in_X8_worth_X1 : ∀ w ∈ wsX10, w ∈ wsX8_worth := by decide +kernel
theorem lk_X8_worth_33 : Cond.fieldLink RX8 33 "CellCover" "library" "LCellCover$Library;" ∈ wsX8_worth := by decide +kernel
theorem lk_X8_worth_65 : Cond.fieldLink RX8 65 "CellCover" "covered" "Z" ∈ wsX8_worth := by decide +kernel
theorem lk_X8_worth_55 : Cond.fieldLink RX8 55 "CellCover" "trial" "LCellCover$Cover;" ∈ wsX8_worth := by decide +kernel
theorem lk_X8_worth_51 : Cond.fieldLink RX8 51 "CellCover" "told" "LCellCover$Cover;" ∈ wsX8_worth := by decide +kernel
theorem lk_X8_worth_224 : Cond.fieldLink RX8 224 "CellCover$Cover" "manner" "I" ∈ wsX8_worth := by decide +kernel
theorem lk_X8_worth_218 : Cond.fieldLink RX8 218 "CellCover$Cover" "wholeArea" "I" ∈ wsX8_worth := by decide +kernel
set_option maxHeartbeats 4000000 in
set_option maxRecDepth 100000 in
theorem c_X8_worth (l : Launch) (G : GT) (A : Nat → Prop) (a0 : Int32) (S : St) (out : Int32 × St) (h : f_X8_worth a0 S = some out) : Met l yX8_worth wsX8_worth rm_X8_worth (va_Pc [.ref (G.2.2 0 0), .int a0] (WD shC idsC G A S)) (QI shC idsC G A out) 0 0 A := by
  refine Met.ofW (cc := cX8_worth) (maxL := 2) (ret := (some .int)) (by decide) rfl ?_
  intro p e s m args below meth c s₁ B hml hv
  obtain ⟨rfl, hW, hK⟩ := hv
  have F : CallFix p m c cX8_worth 2 s _ wsX8_worth RX8 := ⟨B.exec, B.bytes, hml, findClass_of_methodNamed B.named, atoms_spec (ws := wsX8_worth) B.pre⟩
  have hr := B.returns
  have hlk := B.notSynchronized
  have hS : va_S A s.heap s.heap [] := va_S.rf
  have hl := lv_entry ([.ref (G.2.2 0 0), .int a0]) (n := 2) (Nat.le_of_ble_eq_true rfl)
  rw [lg_entry_eq]
  generalize (lg_sl ([.ref (G.2.2 0 0), .int a0]) ++ List.replicate (2 - (lg_sl ([.ref (G.2.2 0 0), .int a0])).length) Slot.unset).toArray = ls at hl ⊢
  have hl : lv_has ls 2 [(0, .ref (G.2.2 0 0)), (1, .int a0)] := hl
  unfold f_X8_worth at h
  refine lv_aload_n F.1 F.2.1 dX8_worth_0 rfl (lv_at hl 0 rfl) ?_
  refine rw_get (q0 := 0) F hK hW idC_0 rfl rfl in_X8_worth_X8 3 (by decide) lk_X8_worth_33 rfl dX8_worth_1 ?_
  refine lv_iload_n F.1 F.2.1 dX8_worth_4 rfl (lv_at hl 1 rfl) ?_
  obtain ⟨r_2, S_3, hq_1, h⟩ := bi_some h
  refine rw_vi F hK hW hS [.int a0] (rest := []) (c_X3_has l G A a0 S (r_2, S_3) hq_1) (cwV 1 F.2.2.2.2 gX8_worth_X3_has rfl rfl rfl (by decide +kernel) ⟨Nat.le_of_ble_eq_true rfl, Nat.le_of_ble_eq_true rfl⟩) (rw_recv (q0 := 4) hK hW idC_4 rfl rfl) rfl hl.1 rfl (Nat.le_of_ble_eq_true rfl) dX8_worth_5 (fun H locs hW hS => ?_)
  refine lv_if_ne (tgt := 13) F.1 F.2.1 dX8_worth_8 (by decide) (fun c_4 => ?_) (fun c_4 => ?_)
  · have h := (if_neg c_4).symm.trans h
    refine lv_aload_n F.1 F.2.1 dX8_worth_13 rfl (lv_at hl 0 rfl) ?_
    refine rw_get (q0 := 0) F hK hW idC_0 rfl rfl in_X8_worth_X8 8 (by decide) lk_X8_worth_65 rfl dX8_worth_14 ?_
    refine lv_if_ne (tgt := 23) F.1 F.2.1 dX8_worth_17 (by decide) (fun c_5 => ?_) (fun c_5 => ?_)
    · have h := (if_neg c_5).symm.trans h
      refine lv_aload_n F.1 F.2.1 dX8_worth_23 rfl (lv_at hl 0 rfl) ?_
      refine rw_get (q0 := 0) F hK hW idC_0 rfl rfl in_X8_worth_X8 6 (by decide) lk_X8_worth_55 rfl dX8_worth_24 ?_
      refine lv_aload_n F.1 F.2.1 dX8_worth_27 rfl (lv_at hl 0 rfl) ?_
      refine rw_get (q0 := 0) F hK hW idC_0 rfl rfl in_X8_worth_X8 5 (by decide) lk_X8_worth_51 rfl dX8_worth_28 ?_
      refine rw_get (q0 := 6 + 0) F hK hW (idC_6 0 (by decide)) rfl rfl in_X8_worth_X1 13 (by decide) lk_X8_worth_224 rfl dX8_worth_31 ?_
      refine lv_iload_n F.1 F.2.1 dX8_worth_34 rfl (lv_at hl 1 rfl) ?_
      obtain ⟨r_7, S_8, hq_6, h⟩ := bi_some h
      refine rw_vi F hK hW hS [.int (S_3 6 0 13), .int a0] (rest := []) (c_X1_make l G A 1 (by decide) (S_3 6 0 13) a0 S_3 (r_7, S_8) hq_6) (cwV 2 F.2.2.2.2 gX8_worth_X1_make rfl rfl rfl (by decide +kernel) ⟨Nat.le_of_ble_eq_true rfl, Nat.le_of_ble_eq_true rfl⟩) (rw_recv (q0 := 6 + 1) hK hW (idC_6 1 (by decide)) rfl rfl) rfl hl.1 rfl (Nat.le_of_ble_eq_true rfl) dX8_worth_35 (fun H locs hW hS => ?_)
      refine lv_bipush (v := -4) F.1 F.2.1 dX8_worth_38 (by decide) ?_
      refine lv_icmp_eq (tgt := 46) F.1 F.2.1 dX8_worth_40 (by decide) (fun c_9 => ?_) (fun c_9 => ?_)
      · have h := (if_pos c_9).symm.trans h
        refine lv_aload_n F.1 F.2.1 dX8_worth_46 rfl (lv_at hl 0 rfl) ?_
        refine rw_get (q0 := 0) F hK hW idC_0 rfl rfl in_X8_worth_X8 6 (by decide) lk_X8_worth_55 rfl dX8_worth_47 ?_
        refine rw_get (q0 := 6 + 1) F hK hW (idC_6 1 (by decide)) rfl rfl in_X8_worth_X1 12 (by decide) lk_X8_worth_218 rfl dX8_worth_50 ?_
        refine lv_aload_n F.1 F.2.1 dX8_worth_53 rfl (lv_at hl 0 rfl) ?_
        refine rw_get (q0 := 0) F hK hW idC_0 rfl rfl in_X8_worth_X8 5 (by decide) lk_X8_worth_51 rfl dX8_worth_54 ?_
        refine rw_get (q0 := 6 + 0) F hK hW (idC_6 0 (by decide)) rfl rfl in_X8_worth_X1 12 (by decide) lk_X8_worth_218 rfl dX8_worth_57 ?_
        refine lv_isub F.1 F.2.1 dX8_worth_60 ?_
        exact rw_ret F hr hlk hK hW hS h dX8_worth_61
      · have h := (if_neg c_9).symm.trans h
        refine lv_bipush (v := -4) F.1 F.2.1 dX8_worth_43 (by decide) ?_
        exact rw_ret F hr hlk hK hW hS h dX8_worth_45
    · have h := (if_pos c_5).symm.trans h
      refine lv_bipush (v := -2) F.1 F.2.1 dX8_worth_20 (by decide) ?_
      exact rw_ret F hr hlk hK hW hS h dX8_worth_22
  · have h := (if_pos c_4).symm.trans h
    refine lv_iconst (v := -1) F.1 F.2.1 dX8_worth_11 (by decide) ?_
    exact rw_ret F hr hlk hK hW hS h dX8_worth_12
/-! CellCover$Net.gateValue(IIII)I -/
abbrev rm_X5_gateValue : Room := { frames := 0, cells := 0, slots := 0, locals := 0 }
set_option maxHeartbeats 4000000 in
set_option maxRecDepth 100000 in
theorem w_X5_gateValue_78 {p : Program} {l : Launch} {e : Env} {s : State} {m : MethodId} {args : Array Value} {below : List Frame} {meth : Method} {c : Code} {G : GT} {A : Nat → Prop} (F : CallFix p m c cX5_gateValue 4 s args wsX5_gateValue RX5) (hr : meth.sig.returnType = (some .int)) (hlk : meth.locks = false) (hK : va_K G.1 vwCl (tyl G) s) (out : Int32 × St) : ∀ (S : St) (y0 : Int32) (H : Heap) (locs : List Loc) (ls : Array Slot), Wd shC idsC G A S H → va_S A s.heap H locs → lv_has ls 4 [] → j_X5_gateValue_78 S y0 = some out → W p l e rm_X5_gateValue s m args below meth c H locs 0 0 (MQ below (QI shC idsC G A out) args s 0 0 A) (F0 m 78 ls [.int y0]) := by
  intro S y0 H locs ls hW hS hl h
  unfold j_X5_gateValue_78 at h
  exact rw_ret F hr hlk hK hW hS h dX5_gateValue_78
set_option maxHeartbeats 4000000 in
set_option maxRecDepth 100000 in
theorem c_X5_gateValue (l : Launch) (G : GT) (A : Nat → Prop) (a0 : Int32) (a1 : Int32) (a2 : Int32) (a3 : Int32) (S : St) (out : Int32 × St) (h : f_X5_gateValue a0 a1 a2 a3 S = some out) : Met l yX5_gateValue wsX5_gateValue rm_X5_gateValue (va_Pc [.int a0, .int a1, .int a2, .int a3] (WD shC idsC G A S)) (QI shC idsC G A out) 0 0 A := by
  refine Met.ofW (cc := cX5_gateValue) (maxL := 4) (ret := (some .int)) (by decide) rfl ?_
  intro p e s m args below meth c s₁ B hml hv
  obtain ⟨rfl, hW, hK⟩ := hv
  have F : CallFix p m c cX5_gateValue 4 s _ wsX5_gateValue RX5 := ⟨B.exec, B.bytes, hml, findClass_of_methodNamed B.named, atoms_spec (ws := wsX5_gateValue) B.pre⟩
  have hr := B.returns
  have hlk := B.notSynchronized
  have hS : va_S A s.heap s.heap [] := va_S.rf
  have hl := lv_entry ([.int a0, .int a1, .int a2, .int a3]) (n := 4) (Nat.le_of_ble_eq_true rfl)
  rw [lg_entry_eq]
  generalize (lg_sl ([.int a0, .int a1, .int a2, .int a3]) ++ List.replicate (4 - (lg_sl ([.int a0, .int a1, .int a2, .int a3])).length) Slot.unset).toArray = ls at hl ⊢
  have hl : lv_has ls 4 [(0, .int a0), (1, .int a1), (2, .int a2), (3, .int a3)] := hl
  unfold f_X5_gateValue at h
  refine lv_iload_n F.1 F.2.1 dX5_gateValue_0 rfl (lv_at hl 0 rfl) ?_
  by_cases c_1 : a0 = 0
  · have h := (if_pos c_1).symm.trans h
    refine lv_tableIn (off := 39) (tgt := 40) F.1 F.2.1 dX5_gateValue_1 (by rw [c_1]; decide) (by rw [c_1]; decide) (by rw [c_1]; rfl) (by decide) ?_
    refine lv_iconst (v := 1) F.1 F.2.1 dX5_gateValue_40 (by decide) ?_
    refine lv_iload_n F.1 F.2.1 dX5_gateValue_41 rfl (lv_at hl 1 rfl) ?_
    refine lv_isub F.1 F.2.1 dX5_gateValue_42 ?_
    exact rw_ret F hr hlk hK hW hS h dX5_gateValue_43
  · have h := (if_neg c_1).symm.trans h
    by_cases c_2 : a0 = 1
    · have h := (if_pos c_2).symm.trans h
      refine lv_tableIn (off := 43) (tgt := 44) F.1 F.2.1 dX5_gateValue_1 (by rw [c_2]; decide) (by rw [c_2]; decide) (by rw [c_2]; rfl) (by decide) ?_
      refine lv_iload_n F.1 F.2.1 dX5_gateValue_44 rfl (lv_at hl 1 rfl) ?_
      refine lv_iload_n F.1 F.2.1 dX5_gateValue_45 rfl (lv_at hl 2 rfl) ?_
      refine lv_iand F.1 F.2.1 dX5_gateValue_46 ?_
      exact rw_ret F hr hlk hK hW hS h dX5_gateValue_47
    · have h := (if_neg c_2).symm.trans h
      by_cases c_3 : a0 = 2
      · have h := (if_pos c_3).symm.trans h
        refine lv_tableIn (off := 47) (tgt := 48) F.1 F.2.1 dX5_gateValue_1 (by rw [c_3]; decide) (by rw [c_3]; decide) (by rw [c_3]; rfl) (by decide) ?_
        refine lv_iload_n F.1 F.2.1 dX5_gateValue_48 rfl (lv_at hl 1 rfl) ?_
        refine lv_iload_n F.1 F.2.1 dX5_gateValue_49 rfl (lv_at hl 2 rfl) ?_
        refine lv_ior F.1 F.2.1 dX5_gateValue_50 ?_
        exact rw_ret F hr hlk hK hW hS h dX5_gateValue_51
      · have h := (if_neg c_3).symm.trans h
        by_cases c_4 : a0 = 3
        · have h := (if_pos c_4).symm.trans h
          refine lv_tableIn (off := 51) (tgt := 52) F.1 F.2.1 dX5_gateValue_1 (by rw [c_4]; decide) (by rw [c_4]; decide) (by rw [c_4]; rfl) (by decide) ?_
          refine lv_iload_n F.1 F.2.1 dX5_gateValue_52 rfl (lv_at hl 1 rfl) ?_
          refine lv_iload_n F.1 F.2.1 dX5_gateValue_53 rfl (lv_at hl 2 rfl) ?_
          refine lv_ixor F.1 F.2.1 dX5_gateValue_54 ?_
          exact rw_ret F hr hlk hK hW hS h dX5_gateValue_55
        · have h := (if_neg c_4).symm.trans h
          by_cases c_5 : a0 = 4
          · have h := (if_pos c_5).symm.trans h
            refine lv_tableIn (off := 55) (tgt := 56) F.1 F.2.1 dX5_gateValue_1 (by rw [c_5]; decide) (by rw [c_5]; decide) (by rw [c_5]; rfl) (by decide) ?_
            refine lv_iconst (v := 1) F.1 F.2.1 dX5_gateValue_56 (by decide) ?_
            refine lv_iload_n F.1 F.2.1 dX5_gateValue_57 rfl (lv_at hl 1 rfl) ?_
            refine lv_iload_n F.1 F.2.1 dX5_gateValue_58 rfl (lv_at hl 2 rfl) ?_
            refine lv_iand F.1 F.2.1 dX5_gateValue_59 ?_
            refine lv_isub F.1 F.2.1 dX5_gateValue_60 ?_
            exact rw_ret F hr hlk hK hW hS h dX5_gateValue_61
          · have h := (if_neg c_5).symm.trans h
            by_cases c_6 : a0 = 5
            · have h := (if_pos c_6).symm.trans h
              refine lv_tableIn (off := 61) (tgt := 62) F.1 F.2.1 dX5_gateValue_1 (by rw [c_6]; decide) (by rw [c_6]; decide) (by rw [c_6]; rfl) (by decide) ?_
              refine lv_iconst (v := 1) F.1 F.2.1 dX5_gateValue_62 (by decide) ?_
              refine lv_iload_n F.1 F.2.1 dX5_gateValue_63 rfl (lv_at hl 1 rfl) ?_
              refine lv_iload_n F.1 F.2.1 dX5_gateValue_64 rfl (lv_at hl 2 rfl) ?_
              refine lv_ior F.1 F.2.1 dX5_gateValue_65 ?_
              refine lv_isub F.1 F.2.1 dX5_gateValue_66 ?_
              exact rw_ret F hr hlk hK hW hS h dX5_gateValue_67
            · have h := (if_neg c_6).symm.trans h
              have nc_1 := lv_neT c_1 (a := 0) (by decide)
              have nc_2 := lv_neT c_2 (a := 1) (by decide)
              have nc_3 := lv_neT c_3 (a := 2) (by decide)
              have nc_4 := lv_neT c_4 (a := 3) (by decide)
              have nc_5 := lv_neT c_5 (a := 4) (by decide)
              have nc_6 := lv_neT c_6 (a := 5) (by decide)
              refine lv_tableOut (tgt := 68) F.1 F.2.1 dX5_gateValue_1 (by omega) (by decide) ?_
              refine lv_iload_n F.1 F.2.1 dX5_gateValue_68 rfl (lv_at hl 1 rfl) ?_
              refine lv_iconst (v := 1) F.1 F.2.1 dX5_gateValue_69 (by decide) ?_
              refine lv_icmp_ne (tgt := 77) F.1 F.2.1 dX5_gateValue_70 (by decide) (fun c_7 => ?_) (fun c_7 => ?_)
              · have h := (if_neg c_7).symm.trans h
                refine lv_iload_n F.1 F.2.1 dX5_gateValue_77 rfl (lv_at hl 3 rfl) ?_
                exact w_X5_gateValue_78 F hr hlk hK out  _ _ _ _ _  hW hS (lv_sub hl [] rfl) h
              · have h := (if_pos c_7).symm.trans h
                refine lv_iload_n F.1 F.2.1 dX5_gateValue_73 rfl (lv_at hl 2 rfl) ?_
                refine lv_goto (tgt := 78) F.1 F.2.1 dX5_gateValue_74 (by decide) ?_
                exact w_X5_gateValue_78 F hr hlk hK out  _ _ _ _ _  hW hS (lv_sub hl [] rfl) h
