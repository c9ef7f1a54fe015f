/-! CellCover$Cover.keep(IIII)V -/
abbrev rm_X1_keep : Room := { frames := 0, cells := 0, slots := 0, locals := 0 }
theorem in_X1_keep_X1 : ∀ w ∈ wsX10, w ∈ wsX1_keep := by decide +kernel
theorem in_X1_keep_X4 : ∀ w ∈ wsX40, w ∈ wsX1_keep := by decide +kernel
theorem lk_X1_keep_18 : Cond.fieldLink RX1 18 "CellCover$Cover" "cellOf" "[I" ∈ wsX1_keep := by decide +kernel
theorem lk_X1_keep_9 : Cond.fieldLink RX1 9 "CellCover$Cover" "areaOf" "[I" ∈ wsX1_keep := by decide +kernel
theorem lk_X1_keep_15 : Cond.fieldLink RX1 15 "CellCover$Cover" "arrivalOf" "[I" ∈ wsX1_keep := by decide +kernel
theorem lk_X1_keep_21 : Cond.fieldLink RX1 21 "CellCover$Cover" "pinsOf" "[I" ∈ wsX1_keep := by decide +kernel
theorem lk_X1_keep_55 : Cond.fieldLink RX1 55 "CellCover$Cover" "matcher" "LCellCover$Matcher;" ∈ wsX1_keep := by decide +kernel
theorem lk_X1_keep_109 : Cond.fieldLink RX1 109 "CellCover$Matcher" "pinAt" "[I" ∈ wsX1_keep := by decide +kernel
set_option maxHeartbeats 4000000 in
set_option maxRecDepth 100000 in
theorem w_X1_keep_25 {p : Program} {l : Launch} {e : Env} {s : State} {m : MethodId} {args : Array Value} {below : List Frame} {meth : Method} {c : Code} {G : GT} {A : Nat → Prop} (F : CallFix p m c cX1_keep 6 s args wsX1_keep RX1) (hr : meth.sig.returnType = none) (hlk : meth.locks = false) (hK : va_K G.1 vwCl (tyl G) s) (t : Nat) (ht : t < 2) (out : St) : ∀ n : Nat, ∀ (S : St) (x1 : Int32) (x5 : Int32) (H : Heap) (locs : List Loc) (ls : Array Slot), Wd shC idsC G A S H → va_S A s.heap H locs → lv_has ls 6 [(0, .ref (G.2.2 6 t)), (1, .int x1), (5, .int x5)] → l_X1_keep_25 t n S x1 x5 = some out → W p l e rm_X1_keep s m args below meth c H locs 0 0 (MQ below (QV shC idsC G A out) args s 0 0 A) (F0 m 25 ls []) := by
  intro n
  induction n with
  | zero =>
    intro S x1 x5 H locs ls hW hS hl h
    cases h
  | succ n Kb =>
    generalize hkb : l_X1_keep_25 t n = kb at Kb
    intro S x1 x5 H locs ls hW hS hl h
    rw [show l_X1_keep_25 t (n + 1) = b_X1_keep_25 t (l_X1_keep_25 t n) from rfl, hkb] at h
    unfold b_X1_keep_25 at h
    refine lv_iload F.1 F.2.1 dX1_keep_25 (lv_at hl 2 rfl) ?_
    refine lv_bipush (v := 6) F.1 F.2.1 dX1_keep_27 (by decide) ?_
    refine lv_icmp_ge (tgt := 60) F.1 F.2.1 dX1_keep_29 (by decide) (fun c_7 => ?_) (fun c_7 => ?_)
    · have h := (if_pos c_7).symm.trans h
      exact rw_retv F hr hlk hK hW hS h dX1_keep_60
    · have h := (if_neg c_7).symm.trans h
      refine lv_aload_n F.1 F.2.1 dX1_keep_32 rfl (lv_at hl 0 rfl) ?_
      refine rw_get (q0 := 6 + t) F hK hW (idC_6 _ ht) rfl rfl in_X1_keep_X1 6 (by decide) lk_X1_keep_21 rfl dX1_keep_33 ?_
      refine lv_iload_n F.1 F.2.1 dX1_keep_36 rfl (lv_at hl 1 rfl) ?_
      refine lv_bipush (v := 6) F.1 F.2.1 dX1_keep_37 (by decide) ?_
      refine lv_imul F.1 F.2.1 dX1_keep_39 ?_
      refine lv_iload F.1 F.2.1 dX1_keep_40 (lv_at hl 2 rfl) ?_
      refine lv_iadd F.1 F.2.1 dX1_keep_42 ?_
      refine lv_aload_n F.1 F.2.1 dX1_keep_43 rfl (lv_at hl 0 rfl) ?_
      refine rw_get (q0 := 6 + t) F hK hW (idC_6 _ ht) rfl rfl in_X1_keep_X1 2 (by decide) lk_X1_keep_55 rfl dX1_keep_44 ?_
      refine rw_get (q0 := 5) F hK hW idC_5 rfl rfl in_X1_keep_X4 2 (by decide) lk_X1_keep_109 rfl dX1_keep_47 ?_
      refine lv_iload F.1 F.2.1 dX1_keep_50 (lv_at hl 2 rfl) ?_
      obtain ⟨b_8, h⟩ := gd_some h
      refine rw_iald (q0 := 46) F hK hW idC_26 (fun _ => rfl) (ix_in b_8) dX1_keep_52 ?_
      refine lv_topi (fun v_9 ev_9 => ?_)
      have h := lt_n ev_9 h
      obtain ⟨b_10, h⟩ := gd_some h
      refine rw_iast ndC (q0 := 53 + t) F hK hW hS (idC_30 _ ht) (fun _ => rfl) (ix_in b_10) dX1_keep_53 (fun H locs S_11 eS_11 hW hS => ?_)
      have h := lt_n eS_11 h
      obtain ⟨v_12, ev_12⟩ : ∃ y : Int32, y = x5 + 1 := ⟨_, rfl⟩
      have h := lt_n ev_12 h
      refine lv_iinc (v := v_12) (lv' := [(5, .int v_12), (0, .ref (G.2.2 6 t)), (1, .int x1)]) F.1 F.2.1 dX1_keep_54 hl (k := 2) rfl (by rw [ev_12]; rfl) (by decide) rfl (fun ls hl => ?_)
      refine lv_goto (tgt := 25) F.1 F.2.1 dX1_keep_57 (by decide) ?_
      exact Kb _ _ _ _ _ _  hW hS (lv_sub hl [1, 2, 0] rfl) h
set_option maxHeartbeats 4000000 in
set_option maxRecDepth 100000 in
theorem c_X1_keep (l : Launch) (G : GT) (A : Nat → Prop) (t : Nat) (ht : t < 2) (a0 : Int32) (a1 : Int32) (a2 : Int32) (a3 : Int32) (S : St) (out : St) (h : f_X1_keep t a0 a1 a2 a3 S = some out) : Met l yX1_keep wsX1_keep rm_X1_keep (va_Pc [.ref (G.2.2 6 t), .int a0, .int a1, .int a2, .int a3] (WD shC idsC G A S)) (QV shC idsC G A out) 0 0 A := by
  refine Met.ofW (cc := cX1_keep) (maxL := 6) (ret := none) (by decide) rfl ?_
  intro p e s m args below meth c s₁ B hml hv
  obtain ⟨rfl, hW, hK⟩ := hv
  have F : CallFix p m c cX1_keep 6 s _ wsX1_keep RX1 := ⟨B.exec, B.bytes, hml, findClass_of_methodNamed B.named, atoms_spec (ws := wsX1_keep) B.pre⟩
  have hr := B.returns
  have hlk := B.notSynchronized
  have hS : va_S A s.heap s.heap [] := va_S.rf
  have hl := lv_entry ([.ref (G.2.2 6 t), .int a0, .int a1, .int a2, .int a3]) (n := 6) (Nat.le_of_ble_eq_true rfl)
  rw [lg_entry_eq]
  generalize (lg_sl ([.ref (G.2.2 6 t), .int a0, .int a1, .int a2, .int a3]) ++ List.replicate (6 - (lg_sl ([.ref (G.2.2 6 t), .int a0, .int a1, .int a2, .int a3])).length) Slot.unset).toArray = ls at hl ⊢
  have hl : lv_has ls 6 [(0, .ref (G.2.2 6 t)), (1, .int a0), (2, .int a1), (3, .int a2), (4, .int a3)] := hl
  unfold f_X1_keep at h
  refine lv_aload_n F.1 F.2.1 dX1_keep_0 rfl (lv_at hl 0 rfl) ?_
  refine rw_get (q0 := 6 + t) F hK hW (idC_6 _ ht) rfl rfl in_X1_keep_X1 5 (by decide) lk_X1_keep_18 rfl dX1_keep_1 ?_
  refine lv_iload_n F.1 F.2.1 dX1_keep_4 rfl (lv_at hl 1 rfl) ?_
  refine lv_iload_n F.1 F.2.1 dX1_keep_5 rfl (lv_at hl 2 rfl) ?_
  obtain ⟨b_1, h⟩ := gd_some h
  refine rw_iast ndC (q0 := 51 + t) F hK hW hS (idC_29 _ ht) (fun _ => rfl) (ix_in b_1) dX1_keep_6 (fun H locs S_2 eS_2 hW hS => ?_)
  have h := lt_n eS_2 h
  refine lv_aload_n F.1 F.2.1 dX1_keep_7 rfl (lv_at hl 0 rfl) ?_
  refine rw_get (q0 := 6 + t) F hK hW (idC_6 _ ht) rfl rfl in_X1_keep_X1 3 (by decide) lk_X1_keep_9 rfl dX1_keep_8 ?_
  refine lv_iload_n F.1 F.2.1 dX1_keep_11 rfl (lv_at hl 1 rfl) ?_
  refine lv_iload_n F.1 F.2.1 dX1_keep_12 rfl (lv_at hl 3 rfl) ?_
  obtain ⟨b_3, h⟩ := gd_some h
  refine rw_iast ndC (q0 := 47 + t) F hK hW hS (idC_27 _ ht) (fun _ => rfl) (ix_in b_3) dX1_keep_13 (fun H locs S_4 eS_4 hW hS => ?_)
  have h := lt_n eS_4 h
  refine lv_aload_n F.1 F.2.1 dX1_keep_14 rfl (lv_at hl 0 rfl) ?_
  refine rw_get (q0 := 6 + t) F hK hW (idC_6 _ ht) rfl rfl in_X1_keep_X1 4 (by decide) lk_X1_keep_15 rfl dX1_keep_15 ?_
  refine lv_iload_n F.1 F.2.1 dX1_keep_18 rfl (lv_at hl 1 rfl) ?_
  refine lv_iload F.1 F.2.1 dX1_keep_19 (lv_at hl 4 rfl) ?_
  obtain ⟨b_5, h⟩ := gd_some h
  refine rw_iast ndC (q0 := 49 + t) F hK hW hS (idC_28 _ ht) (fun _ => rfl) (ix_in b_5) dX1_keep_21 (fun H locs S_6 eS_6 hW hS => ?_)
  have h := lt_n eS_6 h
  refine lv_iconst (v := 0) F.1 F.2.1 dX1_keep_22 (by decide) ?_
  refine lv_istore (lv' := [(5, .int 0), (0, .ref (G.2.2 6 t)), (1, .int a0), (2, .int a1), (3, .int a2), (4, .int a3)]) F.1 F.2.1 dX1_keep_23 hl (by decide) rfl (fun ls hl => ?_)
  refine w_X1_keep_25 F hr hlk hK t ht out   5000 _ _ _ _ _ _  hW hS (lv_sub hl [1, 2, 0] rfl) h
/-! CellCover$Cover.weigh(II)V -/
abbrev rm_X1_weigh : Room := { frames := 2, cells := 0, slots := 0, locals := 48 }
theorem in_X1_weigh_X1 : ∀ w ∈ wsX10, w ∈ wsX1_weigh := by decide +kernel
theorem in_X1_weigh_X3 : ∀ w ∈ wsX30, w ∈ wsX1_weigh := by decide +kernel
theorem in_X1_weigh_X0 : ∀ w ∈ wsX00, w ∈ wsX1_weigh := by decide +kernel
theorem in_X1_weigh_X4 : ∀ w ∈ wsX40, w ∈ wsX1_weigh := by decide +kernel
theorem in_X1_weigh_X7 : ∀ w ∈ wsX70, w ∈ wsX1_weigh := by decide +kernel
theorem lk_X1_weigh_51 : Cond.fieldLink RX1 51 "CellCover$Cover" "library" "LCellCover$Library;" ∈ wsX1_weigh := by decide +kernel
theorem lk_X1_weigh_87 : Cond.fieldLink RX1 87 "CellCover$Library" "cells" "[LCellCover$Cell;" ∈ wsX1_weigh := by decide +kernel
theorem lk_X1_weigh_104 : Cond.fieldLink RX1 104 "CellCover$Cell" "area" "I" ∈ wsX1_weigh := by decide +kernel
theorem lk_X1_weigh_55 : Cond.fieldLink RX1 55 "CellCover$Cover" "matcher" "LCellCover$Matcher;" ∈ wsX1_weigh := by decide +kernel
theorem lk_X1_weigh_109 : Cond.fieldLink RX1 109 "CellCover$Matcher" "pinAt" "[I" ∈ wsX1_weigh := by decide +kernel
theorem lk_X1_weigh_47 : Cond.fieldLink RX1 47 "CellCover$Cover" "vertices" "LCellCover$Vertices;" ∈ wsX1_weigh := by decide +kernel
theorem lk_X1_weigh_74 : Cond.fieldLink RX1 74 "CellCover$Vertices" "root" "[Z" ∈ wsX1_weigh := by decide +kernel
theorem lk_X1_weigh_15 : Cond.fieldLink RX1 15 "CellCover$Cover" "arrivalOf" "[I" ∈ wsX1_weigh := by decide +kernel
theorem lk_X1_weigh_1115 : Cond.methodLink RX1 115 Lib.Math.max.name ∈ wsX1_weigh := by decide +kernel
theorem lk_X1_weigh_2000 : Cond.static Lib.Math.max.name ∈ wsX1_weigh := by decide +kernel
theorem lk_X1_weigh_2001 : Cond.initialized "java/lang/Math" ∈ wsX1_weigh := by decide +kernel
theorem lk_X1_weigh_2002 : Cond.code Lib.Math.max.name Lib.Math.max.code 2 (some .int) ∈ wsX1_weigh := by decide +kernel
theorem lk_X1_weigh_9 : Cond.fieldLink RX1 9 "CellCover$Cover" "areaOf" "[I" ∈ wsX1_weigh := by decide +kernel
theorem lk_X1_weigh_121 : Cond.fieldLink RX1 121 "CellCover$Cell" "delay" "I" ∈ wsX1_weigh := by decide +kernel
theorem lk_X1_weigh_18 : Cond.fieldLink RX1 18 "CellCover$Cover" "cellOf" "[I" ∈ wsX1_weigh := by decide +kernel
set_option maxHeartbeats 4000000 in
set_option maxRecDepth 100000 in
theorem w_X1_weigh_95 {p : Program} {l : Launch} {e : Env} {s : State} {m : MethodId} {args : Array Value} {below : List Frame} {meth : Method} {c : Code} {G : GT} {A : Nat → Prop} (F : CallFix p m c cX1_weigh 7 s args wsX1_weigh RX1) (hr : meth.sig.returnType = none) (hlk : meth.locks = false) (hK : va_K G.1 vwCl (tyl G) s) (t : Nat) (ht : t < 2) (out : St) (kb : St → Int32 → Int32 → Int32 → Int32 → Int32 → Option (St)) (k101 : St → Int32 → Int32 → Int32 → Int32 → Option (St)) (Kb : ∀ (S : St) (x1 : Int32) (x2 : Int32) (x3 : Int32) (x4 : Int32) (x5 : Int32) (H : Heap) (locs : List Loc) (ls : Array Slot), Wd shC idsC G A S H → va_S A s.heap H locs → lv_has ls 7 [(0, .ref (G.2.2 6 t)), (1, .int x1), (2, .int x2), (3, .int x3), (4, .int x4), (5, .int x5)] → kb S x1 x2 x3 x4 x5 = some out → W p l e rm_X1_weigh s m args below meth c H locs 0 0 (MQ below (QV shC idsC G A out) args s 0 0 A) (F0 m 19 ls [])) (K101 : ∀ (S : St) (x1 : Int32) (x2 : Int32) (x3 : Int32) (x4 : Int32) (H : Heap) (locs : List Loc) (ls : Array Slot), Wd shC idsC G A S H → va_S A s.heap H locs → lv_has ls 7 [(0, .ref (G.2.2 6 t)), (1, .int x1), (2, .int x2), (3, .int x3), (4, .int x4)] → k101 S x1 x2 x3 x4 = some out → W p l e rm_X1_weigh s m args below meth c H locs 0 0 (MQ below (QV shC idsC G A out) args s 0 0 A) (F0 m 101 ls [])) : ∀ (S : St) (x1 : Int32) (x2 : Int32) (x3 : Int32) (x4 : Int32) (x5 : Int32) (H : Heap) (locs : List Loc) (ls : Array Slot), Wd shC idsC G A S H → va_S A s.heap H locs → lv_has ls 7 [(0, .ref (G.2.2 6 t)), (1, .int x1), (2, .int x2), (3, .int x3), (4, .int x4), (5, .int x5)] → j_X1_weigh_95 t kb k101 S x1 x2 x3 x4 x5 = some out → W p l e rm_X1_weigh s m args below meth c H locs 0 0 (MQ below (QV shC idsC G A out) args s 0 0 A) (F0 m 95 ls []) := by
  intro S x1 x2 x3 x4 x5 H locs ls hW hS hl h
  unfold j_X1_weigh_95 at h
  obtain ⟨v_17, ev_17⟩ : ∃ y : Int32, y = x5 + 1 := ⟨_, rfl⟩
  have h := lt_n ev_17 h
  refine lv_iinc (v := v_17) (lv' := [(5, .int v_17), (0, .ref (G.2.2 6 t)), (1, .int x1), (2, .int x2), (3, .int x3), (4, .int x4)]) F.1 F.2.1 dX1_weigh_95 hl (k := 5) rfl (by rw [ev_17]; rfl) (by decide) rfl (fun ls hl => ?_)
  refine lv_goto (tgt := 19) F.1 F.2.1 dX1_weigh_98 (by decide) ?_
  exact Kb _ _ _ _ _ _ _ _ _  hW hS (lv_sub hl [1, 2, 3, 4, 5, 0] rfl) h
set_option maxHeartbeats 4000000 in
set_option maxRecDepth 100000 in
theorem w_X1_weigh_81 {p : Program} {l : Launch} {e : Env} {s : State} {m : MethodId} {args : Array Value} {below : List Frame} {meth : Method} {c : Code} {G : GT} {A : Nat → Prop} (F : CallFix p m c cX1_weigh 7 s args wsX1_weigh RX1) (hr : meth.sig.returnType = none) (hlk : meth.locks = false) (hK : va_K G.1 vwCl (tyl G) s) (t : Nat) (ht : t < 2) (out : St) (kb : St → Int32 → Int32 → Int32 → Int32 → Int32 → Option (St)) (k101 : St → Int32 → Int32 → Int32 → Int32 → Option (St)) (Kb : ∀ (S : St) (x1 : Int32) (x2 : Int32) (x3 : Int32) (x4 : Int32) (x5 : Int32) (H : Heap) (locs : List Loc) (ls : Array Slot), Wd shC idsC G A S H → va_S A s.heap H locs → lv_has ls 7 [(0, .ref (G.2.2 6 t)), (1, .int x1), (2, .int x2), (3, .int x3), (4, .int x4), (5, .int x5)] → kb S x1 x2 x3 x4 x5 = some out → W p l e rm_X1_weigh s m args below meth c H locs 0 0 (MQ below (QV shC idsC G A out) args s 0 0 A) (F0 m 19 ls [])) (K101 : ∀ (S : St) (x1 : Int32) (x2 : Int32) (x3 : Int32) (x4 : Int32) (H : Heap) (locs : List Loc) (ls : Array Slot), Wd shC idsC G A S H → va_S A s.heap H locs → lv_has ls 7 [(0, .ref (G.2.2 6 t)), (1, .int x1), (2, .int x2), (3, .int x3), (4, .int x4)] → k101 S x1 x2 x3 x4 = some out → W p l e rm_X1_weigh s m args below meth c H locs 0 0 (MQ below (QV shC idsC G A out) args s 0 0 A) (F0 m 101 ls [])) : ∀ (S : St) (x1 : Int32) (x2 : Int32) (x3 : Int32) (x4 : Int32) (x5 : Int32) (x6 : Int32) (H : Heap) (locs : List Loc) (ls : Array Slot), Wd shC idsC G A S H → va_S A s.heap H locs → lv_has ls 7 [(0, .ref (G.2.2 6 t)), (1, .int x1), (2, .int x2), (3, .int x3), (4, .int x4), (5, .int x5), (6, .int x6)] → j_X1_weigh_81 t kb k101 S x1 x2 x3 x4 x5 x6 = some out → W p l e rm_X1_weigh s m args below meth c H locs 0 0 (MQ below (QV shC idsC G A out) args s 0 0 A) (F0 m 81 ls []) := by
  intro S x1 x2 x3 x4 x5 x6 H locs ls hW hS hl h
  unfold j_X1_weigh_81 at h
  refine lv_iload F.1 F.2.1 dX1_weigh_81 (lv_at hl 4 rfl) ?_
  refine lv_aload_n F.1 F.2.1 dX1_weigh_83 rfl (lv_at hl 0 rfl) ?_
  refine rw_get (q0 := 6 + t) F hK hW (idC_6 _ ht) rfl rfl in_X1_weigh_X1 4 (by decide) lk_X1_weigh_15 rfl dX1_weigh_84 ?_
  refine lv_iload F.1 F.2.1 dX1_weigh_87 (lv_at hl 6 rfl) ?_
  obtain ⟨b_14, h⟩ := gd_some h
  refine rw_iald (q0 := 49 + t) F hK hW (idC_28 _ ht) (fun _ => rfl) (ix_in b_14) dX1_weigh_89 ?_
  refine lv_topi (fun v_15 ev_15 => ?_)
  have h := lt_n ev_15 h
  refine va_mmax F.1 F.2.1 (F.2.2.1.trans hl.1.symm) F.2.2.2.1 (F.2.2.2.2 _ lk_X1_weigh_1115) (F.2.2.2.2 _ lk_X1_weigh_2000) (F.2.2.2.2 _ lk_X1_weigh_2001) (F.2.2.2.2 _ lk_X1_weigh_2002) (Nat.le_of_ble_eq_true rfl) (Nat.le_of_ble_eq_true rfl) (Nat.zero_le _) (Nat.zero_le _) dX1_weigh_90 ?_
  refine lv_topi (fun v_16 ev_16 => ?_)
  have h := lt_n ev_16 h
  refine lv_istore (lv' := [(4, .int v_16), (0, .ref (G.2.2 6 t)), (1, .int x1), (2, .int x2), (3, .int x3), (5, .int x5), (6, .int x6)]) F.1 F.2.1 dX1_weigh_93 hl (by decide) rfl (fun ls hl => ?_)
  exact w_X1_weigh_95 F hr hlk hK t ht out kb k101 Kb K101 _ _ _ _ _ _ _ _ _  hW hS (lv_sub hl [1, 2, 3, 4, 0, 5] rfl) h
set_option maxHeartbeats 4000000 in
set_option maxRecDepth 100000 in
theorem w_X1_weigh_19 {p : Program} {l : Launch} {e : Env} {s : State} {m : MethodId} {args : Array Value} {below : List Frame} {meth : Method} {c : Code} {G : GT} {A : Nat → Prop} (F : CallFix p m c cX1_weigh 7 s args wsX1_weigh RX1) (hr : meth.sig.returnType = none) (hlk : meth.locks = false) (hK : va_K G.1 vwCl (tyl G) s) (t : Nat) (ht : t < 2) (out : St) (k101 : St → Int32 → Int32 → Int32 → Int32 → Option (St)) (K101 : ∀ (S : St) (x1 : Int32) (x2 : Int32) (x3 : Int32) (x4 : Int32) (H : Heap) (locs : List Loc) (ls : Array Slot), Wd shC idsC G A S H → va_S A s.heap H locs → lv_has ls 7 [(0, .ref (G.2.2 6 t)), (1, .int x1), (2, .int x2), (3, .int x3), (4, .int x4)] → k101 S x1 x2 x3 x4 = some out → W p l e rm_X1_weigh s m args below meth c H locs 0 0 (MQ below (QV shC idsC G A out) args s 0 0 A) (F0 m 101 ls [])) : ∀ n : Nat, ∀ (S : St) (x1 : Int32) (x2 : Int32) (x3 : Int32) (x4 : Int32) (x5 : Int32) (H : Heap) (locs : List Loc) (ls : Array Slot), Wd shC idsC G A S H → va_S A s.heap H locs → lv_has ls 7 [(0, .ref (G.2.2 6 t)), (1, .int x1), (2, .int x2), (3, .int x3), (4, .int x4), (5, .int x5)] → l_X1_weigh_19 t k101 n S x1 x2 x3 x4 x5 = some out → W p l e rm_X1_weigh s m args below meth c H locs 0 0 (MQ below (QV shC idsC G A out) args s 0 0 A) (F0 m 19 ls []) := by
  intro n
  induction n with
  | zero =>
    intro S x1 x2 x3 x4 x5 H locs ls hW hS hl h
    cases h
  | succ n Kb =>
    generalize hkb : l_X1_weigh_19 t k101 n = kb at Kb
    intro S x1 x2 x3 x4 x5 H locs ls hW hS hl h
    rw [show l_X1_weigh_19 t k101 (n + 1) = b_X1_weigh_19 t (l_X1_weigh_19 t k101 n) k101 from rfl, hkb] at h
    unfold b_X1_weigh_19 at h
    refine lv_iload F.1 F.2.1 dX1_weigh_19 (lv_at hl 5 rfl) ?_
    refine lv_bipush (v := 6) F.1 F.2.1 dX1_weigh_21 (by decide) ?_
    refine lv_icmp_ge (tgt := 101) F.1 F.2.1 dX1_weigh_23 (by decide) (fun c_3 => ?_) (fun c_3 => ?_)
    · have h := (if_pos c_3).symm.trans h
      exact K101 _ _ _ _ _ _ _ _  hW hS (lv_sub hl [0, 1, 2, 3, 4] rfl) h
    · have h := (if_neg c_3).symm.trans h
      refine lv_aload_n F.1 F.2.1 dX1_weigh_26 rfl (lv_at hl 0 rfl) ?_
      refine rw_get (q0 := 6 + t) F hK hW (idC_6 _ ht) rfl rfl in_X1_weigh_X1 2 (by decide) lk_X1_weigh_55 rfl dX1_weigh_27 ?_
      refine rw_get (q0 := 5) F hK hW idC_5 rfl rfl in_X1_weigh_X4 2 (by decide) lk_X1_weigh_109 rfl dX1_weigh_30 ?_
      refine lv_iload F.1 F.2.1 dX1_weigh_33 (lv_at hl 5 rfl) ?_
      obtain ⟨b_4, h⟩ := gd_some h
      refine rw_iald (q0 := 46) F hK hW idC_26 (fun _ => rfl) (ix_in b_4) dX1_weigh_35 ?_
      refine lv_topi (fun v_5 ev_5 => ?_)
      have h := lt_n ev_5 h
      refine lv_istore (lv' := [(6, .int v_5), (0, .ref (G.2.2 6 t)), (1, .int x1), (2, .int x2), (3, .int x3), (4, .int x4), (5, .int x5)]) F.1 F.2.1 dX1_weigh_36 hl (by decide) rfl (fun ls hl => ?_)
      refine lv_iload F.1 F.2.1 dX1_weigh_38 (lv_at hl 0 rfl) ?_
      refine lv_bipush (v := -4) F.1 F.2.1 dX1_weigh_40 (by decide) ?_
      refine lv_icmp_ne (tgt := 48) F.1 F.2.1 dX1_weigh_42 (by decide) (fun c_6 => ?_) (fun c_6 => ?_)
      · have h := (if_neg c_6).symm.trans h
        refine lv_aload_n F.1 F.2.1 dX1_weigh_48 rfl (lv_at hl 1 rfl) ?_
        refine lv_iload F.1 F.2.1 dX1_weigh_49 (lv_at hl 0 rfl) ?_
        obtain ⟨r_8, S_9, hq_7, h⟩ := bi_some h
        refine rw_vi F hK hW hS [.int v_5] (rest := []) (c_X1_hasOne l G A t ht v_5 S (r_8, S_9) hq_7) (cwV 1 F.2.2.2.2 gX1_weigh_X1_hasOne rfl rfl rfl (by decide +kernel) ⟨Nat.le_of_ble_eq_true rfl, Nat.le_of_ble_eq_true rfl⟩) (rw_recv (q0 := 6 + t) hK hW (idC_6 _ ht) rfl rfl) rfl hl.1 rfl (Nat.le_of_ble_eq_true rfl) dX1_weigh_51 (fun H locs hW hS => ?_)
        refine lv_if_ne (tgt := 58) F.1 F.2.1 dX1_weigh_54 (by decide) (fun c_10 => ?_) (fun c_10 => ?_)
        · have h := (if_neg c_10).symm.trans h
          refine lv_aload_n F.1 F.2.1 dX1_weigh_58 rfl (lv_at hl 1 rfl) ?_
          refine rw_get (q0 := 6 + t) F hK hW (idC_6 _ ht) rfl rfl in_X1_weigh_X1 0 (by decide) lk_X1_weigh_47 rfl dX1_weigh_59 ?_
          refine rw_get (q0 := 1) F hK hW idC_1 rfl rfl in_X1_weigh_X7 5 (by decide) lk_X1_weigh_74 rfl dX1_weigh_62 ?_
          refine lv_iload F.1 F.2.1 dX1_weigh_65 (lv_at hl 0 rfl) ?_
          obtain ⟨b_11, h⟩ := gd_some h
          refine rw_zald (q0 := 34) F hK hW idC_14 (fun _ => rfl) (ix_in b_11) dX1_weigh_67 ?_
          refine lv_topi (fun v_12 ev_12 => ?_)
          have h := lt_n ev_12 h
          refine lv_if_ne (tgt := 81) F.1 F.2.1 dX1_weigh_68 (by decide) (fun c_13 => ?_) (fun c_13 => ?_)
          · have h := (if_neg c_13).symm.trans h
            exact w_X1_weigh_81 F hr hlk hK t ht out kb k101 Kb K101 _ _ _ _ _ _ _ _ _ _  hW hS (lv_sub hl [1, 2, 3, 4, 5, 6, 0] rfl) h
          · have h := (if_pos c_13).symm.trans h
            refine lv_iload_n F.1 F.2.1 dX1_weigh_71 rfl (lv_at hl 4 rfl) ?_
            refine lv_aload_n F.1 F.2.1 dX1_weigh_72 rfl (lv_at hl 1 rfl) ?_
            refine rw_get (q0 := 6 + t) F hK hW (idC_6 _ ht) rfl rfl in_X1_weigh_X1 3 (by decide) lk_X1_weigh_9 rfl dX1_weigh_73 ?_
            refine lv_iload F.1 F.2.1 dX1_weigh_76 (lv_at hl 0 rfl) ?_
            obtain ⟨b_18, h⟩ := gd_some h
            refine rw_iald (q0 := 47 + t) F hK hW (idC_27 _ ht) (fun _ => rfl) (ix_in b_18) dX1_weigh_78 ?_
            refine lv_topi (fun v_19 ev_19 => ?_)
            have h := lt_n ev_19 h
            refine lv_iadd F.1 F.2.1 dX1_weigh_79 ?_
            refine lv_topi (fun v_20 ev_20 => ?_)
            have h := lt_n ev_20 h
            refine lv_istore_n (lv' := [(3, .int v_20), (6, .int v_5), (0, .ref (G.2.2 6 t)), (1, .int x1), (2, .int x2), (4, .int x4), (5, .int x5)]) F.1 F.2.1 dX1_weigh_80 rfl hl (by decide) rfl (fun ls hl => ?_)
            exact w_X1_weigh_81 F hr hlk hK t ht out kb k101 Kb K101 _ _ _ _ _ _ _ _ _ _  hW hS (lv_sub hl [2, 3, 4, 0, 5, 6, 1] rfl) h
        · have h := (if_pos c_10).symm.trans h
          exact rw_retv F hr hlk hK hW hS h dX1_weigh_57
      · have h := (if_pos c_6).symm.trans h
        refine lv_goto (tgt := 95) F.1 F.2.1 dX1_weigh_45 (by decide) ?_
        exact w_X1_weigh_95 F hr hlk hK t ht out kb k101 Kb K101 _ _ _ _ _ _ _ _ _  hW hS (lv_sub hl [1, 2, 3, 4, 5, 6] rfl) h
set_option maxHeartbeats 4000000 in
set_option maxRecDepth 100000 in
theorem w_X1_weigh_149 {p : Program} {l : Launch} {e : Env} {s : State} {m : MethodId} {args : Array Value} {below : List Frame} {meth : Method} {c : Code} {G : GT} {A : Nat → Prop} (F : CallFix p m c cX1_weigh 7 s args wsX1_weigh RX1) (hr : meth.sig.returnType = none) (hlk : meth.locks = false) (hK : va_K G.1 vwCl (tyl G) s) (t : Nat) (ht : t < 2) (out : St) : ∀ (S : St) (H : Heap) (locs : List Loc) (ls : Array Slot), Wd shC idsC G A S H → va_S A s.heap H locs → lv_has ls 7 [] → j_X1_weigh_149 t S = some out → W p l e rm_X1_weigh s m args below meth c H locs 0 0 (MQ below (QV shC idsC G A out) args s 0 0 A) (F0 m 149 ls []) := by
  intro S H locs ls hW hS hl h
  unfold j_X1_weigh_149 at h
  exact rw_retv F hr hlk hK hW hS h dX1_weigh_149
set_option maxHeartbeats 4000000 in
set_option maxRecDepth 100000 in
theorem w_X1_weigh_140 {p : Program} {l : Launch} {e : Env} {s : State} {m : MethodId} {args : Array Value} {below : List Frame} {meth : Method} {c : Code} {G : GT} {A : Nat → Prop} (F : CallFix p m c cX1_weigh 7 s args wsX1_weigh RX1) (hr : meth.sig.returnType = none) (hlk : meth.locks = false) (hK : va_K G.1 vwCl (tyl G) s) (t : Nat) (ht : t < 2) (out : St) : ∀ (S : St) (x1 : Int32) (x2 : Int32) (x3 : Int32) (x5 : Int32) (H : Heap) (locs : List Loc) (ls : Array Slot), Wd shC idsC G A S H → va_S A s.heap H locs → lv_has ls 7 [(0, .ref (G.2.2 6 t)), (1, .int x1), (2, .int x2), (3, .int x3), (5, .int x5)] → j_X1_weigh_140 t S x1 x2 x3 x5 = some out → W p l e rm_X1_weigh s m args below meth c H locs 0 0 (MQ below (QV shC idsC G A out) args s 0 0 A) (F0 m 140 ls []) := by
  intro S x1 x2 x3 x5 H locs ls hW hS hl h
  unfold j_X1_weigh_140 at h
  refine lv_aload_n F.1 F.2.1 dX1_weigh_140 rfl (lv_at hl 0 rfl) ?_
  refine lv_iload_n F.1 F.2.1 dX1_weigh_141 rfl (lv_at hl 1 rfl) ?_
  refine lv_iload_n F.1 F.2.1 dX1_weigh_142 rfl (lv_at hl 2 rfl) ?_
  refine lv_iload_n F.1 F.2.1 dX1_weigh_143 rfl (lv_at hl 3 rfl) ?_
  refine lv_iload F.1 F.2.1 dX1_weigh_144 (lv_at hl 4 rfl) ?_
  obtain ⟨q_26, hq_26, h⟩ := bv_some h
  refine rw_vv F hK hW hS [.int x1, .int x2, .int x3, .int x5] (rest := []) (c_X1_keep l G A t ht x1 x2 x3 x5 S q_26 hq_26) (cwV 4 F.2.2.2.2 gX1_weigh_X1_keep rfl rfl rfl (by decide +kernel) ⟨Nat.le_of_ble_eq_true rfl, Nat.le_of_ble_eq_true rfl⟩) (rw_recv (q0 := 6 + t) hK hW (idC_6 _ ht) rfl rfl) rfl hl.1 rfl (Nat.le_of_ble_eq_true rfl) dX1_weigh_146 (fun H locs hW hS => ?_)
  exact w_X1_weigh_149 F hr hlk hK t ht out  _ _ _ _  hW hS (lv_sub hl [] rfl) h
set_option maxHeartbeats 4000000 in
set_option maxRecDepth 100000 in
theorem c_X1_weigh (l : Launch) (G : GT) (A : Nat → Prop) (t : Nat) (ht : t < 2) (a0 : Int32) (a1 : Int32) (S : St) (out : St) (h : f_X1_weigh t a0 a1 S = some out) : Met l yX1_weigh wsX1_weigh rm_X1_weigh (va_Pc [.ref (G.2.2 6 t), .int a0, .int a1] (WD shC idsC G A S)) (QV shC idsC G A out) 0 0 A := by
  refine Met.ofW (cc := cX1_weigh) (maxL := 7) (ret := none) (by decide) rfl ?_
  intro p e s m args below meth c s₁ B hml hv
  obtain ⟨rfl, hW, hK⟩ := hv
  have F : CallFix p m c cX1_weigh 7 s _ wsX1_weigh RX1 := ⟨B.exec, B.bytes, hml, findClass_of_methodNamed B.named, atoms_spec (ws := wsX1_weigh) B.pre⟩
  have hr := B.returns
  have hlk := B.notSynchronized
  have hS : va_S A s.heap s.heap [] := va_S.rf
  have hl := lv_entry ([.ref (G.2.2 6 t), .int a0, .int a1]) (n := 7) (Nat.le_of_ble_eq_true rfl)
  rw [lg_entry_eq]
  generalize (lg_sl ([.ref (G.2.2 6 t), .int a0, .int a1]) ++ List.replicate (7 - (lg_sl ([.ref (G.2.2 6 t), .int a0, .int a1])).length) Slot.unset).toArray = ls at hl ⊢
  have hl : lv_has ls 7 [(0, .ref (G.2.2 6 t)), (1, .int a0), (2, .int a1)] := hl
  unfold f_X1_weigh at h
  refine lv_aload_n F.1 F.2.1 dX1_weigh_0 rfl (lv_at hl 0 rfl) ?_
  refine rw_get (q0 := 6 + t) F hK hW (idC_6 _ ht) rfl rfl in_X1_weigh_X1 1 (by decide) lk_X1_weigh_51 rfl dX1_weigh_1 ?_
  refine rw_get (q0 := 4) F hK hW idC_4 rfl rfl in_X1_weigh_X3 0 (by decide) lk_X1_weigh_87 rfl dX1_weigh_4 ?_
  refine lv_iload_n F.1 F.2.1 dX1_weigh_7 rfl (lv_at hl 2 rfl) ?_
  obtain ⟨b_1, h⟩ := gd_some h
  refine rw_aald (q0 := 44) F hK hW idC_24 (fun _ => rfl) (ix_in b_1) dX1_weigh_8 ?_
  refine rw_get (q0 := 9 + a1.toNatClampNeg) F hK hW (idC_8 _ (ix_lt b_1)) rfl rfl in_X1_weigh_X0 4 (by decide) lk_X1_weigh_104 rfl dX1_weigh_9 ?_
  refine lv_topi (fun v_2 ev_2 => ?_)
  have h := lt_n ev_2 h
  refine lv_istore_n (lv' := [(3, .int v_2), (0, .ref (G.2.2 6 t)), (1, .int a0), (2, .int a1)]) F.1 F.2.1 dX1_weigh_12 rfl hl (by decide) rfl (fun ls hl => ?_)
  refine lv_iconst (v := 0) F.1 F.2.1 dX1_weigh_13 (by decide) ?_
  refine lv_istore (lv' := [(4, .int 0), (3, .int v_2), (0, .ref (G.2.2 6 t)), (1, .int a0), (2, .int a1)]) F.1 F.2.1 dX1_weigh_14 hl (by decide) rfl (fun ls hl => ?_)
  refine lv_iconst (v := 0) F.1 F.2.1 dX1_weigh_16 (by decide) ?_
  refine lv_istore (lv' := [(5, .int 0), (4, .int 0), (3, .int v_2), (0, .ref (G.2.2 6 t)), (1, .int a0), (2, .int a1)]) F.1 F.2.1 dX1_weigh_17 hl (by decide) rfl (fun ls hl => ?_)
  refine w_X1_weigh_19 F hr hlk hK t ht out _ ?_ 5000 _ _ _ _ _ _ _ _ _  hW hS (lv_sub hl [3, 4, 5, 2, 1, 0] rfl) h
  · intro S x1 x2 x3 x4 H locs ls hW hS hl h
    refine lv_aload_n F.1 F.2.1 dX1_weigh_101 rfl (lv_at hl 0 rfl) ?_
    refine rw_get (q0 := 6 + t) F hK hW (idC_6 _ ht) rfl rfl in_X1_weigh_X1 1 (by decide) lk_X1_weigh_51 rfl dX1_weigh_102 ?_
    refine rw_get (q0 := 4) F hK hW idC_4 rfl rfl in_X1_weigh_X3 0 (by decide) lk_X1_weigh_87 rfl dX1_weigh_105 ?_
    refine lv_iload_n F.1 F.2.1 dX1_weigh_108 rfl (lv_at hl 2 rfl) ?_
    obtain ⟨b_21, h⟩ := gd_some h
    refine rw_aald (q0 := 44) F hK hW idC_24 (fun _ => rfl) (ix_in b_21) dX1_weigh_109 ?_
    refine rw_get (q0 := 9 + x2.toNatClampNeg) F hK hW (idC_8 _ (ix_lt b_21)) rfl rfl in_X1_weigh_X0 5 (by decide) lk_X1_weigh_121 rfl dX1_weigh_110 ?_
    refine lv_iload F.1 F.2.1 dX1_weigh_113 (lv_at hl 4 rfl) ?_
    refine lv_iadd F.1 F.2.1 dX1_weigh_115 ?_
    refine lv_topi (fun v_22 ev_22 => ?_)
    have h := lt_n ev_22 h
    refine lv_istore (lv' := [(5, .int v_22), (0, .ref (G.2.2 6 t)), (1, .int x1), (2, .int x2), (3, .int x3), (4, .int x4)]) F.1 F.2.1 dX1_weigh_116 hl (by decide) rfl (fun ls hl => ?_)
    refine lv_aload_n F.1 F.2.1 dX1_weigh_118 rfl (lv_at hl 1 rfl) ?_
    refine rw_get (q0 := 6 + t) F hK hW (idC_6 _ ht) rfl rfl in_X1_weigh_X1 5 (by decide) lk_X1_weigh_18 rfl dX1_weigh_119 ?_
    refine lv_iload_n F.1 F.2.1 dX1_weigh_122 rfl (lv_at hl 2 rfl) ?_
    obtain ⟨b_23, h⟩ := gd_some h
    refine rw_iald (q0 := 51 + t) F hK hW (idC_29 _ ht) (fun _ => rfl) (ix_in b_23) dX1_weigh_123 ?_
    refine lv_topi (fun v_24 ev_24 => ?_)
    have h := lt_n ev_24 h
    refine lv_bipush (v := -4) F.1 F.2.1 dX1_weigh_124 (by decide) ?_
    refine lv_icmp_eq (tgt := 140) F.1 F.2.1 dX1_weigh_126 (by decide) (fun c_25 => ?_) (fun c_25 => ?_)
    · have h := (if_pos c_25).symm.trans h
      exact w_X1_weigh_140 F hr hlk hK t ht out  _ _ _ _ _ _ _ _  hW hS (lv_sub hl [1, 2, 3, 4, 0] rfl) h
    · have h := (if_neg c_25).symm.trans h
      refine lv_aload_n F.1 F.2.1 dX1_weigh_129 rfl (lv_at hl 1 rfl) ?_
      refine lv_iload_n F.1 F.2.1 dX1_weigh_130 rfl (lv_at hl 2 rfl) ?_
      refine lv_iload_n F.1 F.2.1 dX1_weigh_131 rfl (lv_at hl 4 rfl) ?_
      refine lv_iload F.1 F.2.1 dX1_weigh_132 (lv_at hl 0 rfl) ?_
      obtain ⟨r_29, S_30, hq_28, h⟩ := bi_some h
      refine rw_vi F hK hW hS [.int x1, .int x3, .int v_22] (rest := []) (c_X1_isBetter l G A t ht x1 x3 v_22 S (r_29, S_30) hq_28) (cwV 3 F.2.2.2.2 gX1_weigh_X1_isBetter rfl rfl rfl (by decide +kernel) ⟨Nat.le_of_ble_eq_true rfl, Nat.le_of_ble_eq_true rfl⟩) (rw_recv (q0 := 6 + t) hK hW (idC_6 _ ht) rfl rfl) rfl hl.1 rfl (Nat.le_of_ble_eq_true rfl) dX1_weigh_134 (fun H locs hW hS => ?_)
      refine lv_if_eq (tgt := 149) F.1 F.2.1 dX1_weigh_137 (by decide) (fun c_31 => ?_) (fun c_31 => ?_)
      · have h := (if_pos c_31).symm.trans h
        exact w_X1_weigh_149 F hr hlk hK t ht out  _ _ _ _  hW hS (lv_sub hl [] rfl) h
      · have h := (if_neg c_31).symm.trans h
        exact w_X1_weigh_140 F hr hlk hK t ht out  _ _ _ _ _ _ _ _  hW hS (lv_sub hl [1, 2, 3, 4, 0] rfl) h
/-! CellCover$Cover.choose(II)V -/
abbrev rm_X1_choose : Room := { frames := 3, cells := 0, slots := 0, locals := 74 }
theorem in_X1_choose_X1 : ∀ w ∈ wsX10, w ∈ wsX1_choose := by decide +kernel
theorem in_X1_choose_X3 : ∀ w ∈ wsX30, w ∈ wsX1_choose := by decide +kernel
theorem lk_X1_choose_51 : Cond.fieldLink RX1 51 "CellCover$Cover" "library" "LCellCover$Library;" ∈ wsX1_choose := by decide +kernel
theorem lk_X1_choose_80 : Cond.fieldLink RX1 80 "CellCover$Library" "many" "I" ∈ wsX1_choose := by decide +kernel
theorem lk_X1_choose_55 : Cond.fieldLink RX1 55 "CellCover$Cover" "matcher" "LCellCover$Matcher;" ∈ wsX1_choose := by decide +kernel
theorem lk_X1_choose_87 : Cond.fieldLink RX1 87 "CellCover$Library" "cells" "[LCellCover$Cell;" ∈ wsX1_choose := by decide +kernel
set_option maxHeartbeats 4000000 in
set_option maxRecDepth 100000 in
theorem w_X1_choose_82 {p : Program} {l : Launch} {e : Env} {s : State} {m : MethodId} {args : Array Value} {below : List Frame} {meth : Method} {c : Code} {G : GT} {A : Nat → Prop} (F : CallFix p m c cX1_choose 5 s args wsX1_choose RX1) (hr : meth.sig.returnType = none) (hlk : meth.locks = false) (hK : va_K G.1 vwCl (tyl G) s) (t : Nat) (ht : t < 2) (out : St) (kb : St → Int32 → Int32 → Int32 → Option (St)) (Kb : ∀ (S : St) (x1 : Int32) (x2 : Int32) (x3 : Int32) (H : Heap) (locs : List Loc) (ls : Array Slot), Wd shC idsC G A S H → va_S A s.heap H locs → lv_has ls 5 [(0, .ref (G.2.2 6 t)), (1, .int x1), (2, .int x2), (3, .int x3)] → kb S x1 x2 x3 = some out → W p l e rm_X1_choose s m args below meth c H locs 0 0 (MQ below (QV shC idsC G A out) args s 0 0 A) (F0 m 2 ls [])) : ∀ (S : St) (x1 : Int32) (x2 : Int32) (x3 : Int32) (H : Heap) (locs : List Loc) (ls : Array Slot), Wd shC idsC G A S H → va_S A s.heap H locs → lv_has ls 5 [(0, .ref (G.2.2 6 t)), (1, .int x1), (2, .int x2), (3, .int x3)] → j_X1_choose_82 t kb S x1 x2 x3 = some out → W p l e rm_X1_choose s m args below meth c H locs 0 0 (MQ below (QV shC idsC G A out) args s 0 0 A) (F0 m 82 ls []) := by
  intro S x1 x2 x3 H locs ls hW hS hl h
  unfold j_X1_choose_82 at h
  obtain ⟨v_3, ev_3⟩ : ∃ y : Int32, y = x3 + 1 := ⟨_, rfl⟩
  have h := lt_n ev_3 h
  refine lv_iinc (v := v_3) (lv' := [(3, .int v_3), (0, .ref (G.2.2 6 t)), (1, .int x1), (2, .int x2)]) F.1 F.2.1 dX1_choose_82 hl (k := 3) rfl (by rw [ev_3]; rfl) (by decide) rfl (fun ls hl => ?_)
  refine lv_goto (tgt := 2) F.1 F.2.1 dX1_choose_85 (by decide) ?_
  exact Kb _ _ _ _ _ _ _  hW hS (lv_sub hl [1, 2, 3, 0] rfl) h
set_option maxHeartbeats 4000000 in
set_option maxRecDepth 100000 in
theorem w_X1_choose_52 {p : Program} {l : Launch} {e : Env} {s : State} {m : MethodId} {args : Array Value} {below : List Frame} {meth : Method} {c : Code} {G : GT} {A : Nat → Prop} (F : CallFix p m c cX1_choose 5 s args wsX1_choose RX1) (hr : meth.sig.returnType = none) (hlk : meth.locks = false) (hK : va_K G.1 vwCl (tyl G) s) (t : Nat) (ht : t < 2) (out : St) (k82 : St → Int32 → Int32 → Int32 → Option (St)) (K82 : ∀ (S : St) (x1 : Int32) (x2 : Int32) (x3 : Int32) (H : Heap) (locs : List Loc) (ls : Array Slot), Wd shC idsC G A S H → va_S A s.heap H locs → lv_has ls 5 [(0, .ref (G.2.2 6 t)), (1, .int x1), (2, .int x2), (3, .int x3)] → k82 S x1 x2 x3 = some out → W p l e rm_X1_choose s m args below meth c H locs 0 0 (MQ below (QV shC idsC G A out) args s 0 0 A) (F0 m 82 ls [])) : ∀ n : Nat, ∀ (S : St) (x1 : Int32) (x2 : Int32) (x3 : Int32) (x4 : Int32) (H : Heap) (locs : List Loc) (ls : Array Slot), Wd shC idsC G A S H → va_S A s.heap H locs → lv_has ls 5 [(0, .ref (G.2.2 6 t)), (1, .int x1), (2, .int x2), (3, .int x3), (4, .int x4)] → l_X1_choose_52 t k82 n S x1 x2 x3 x4 = some out → W p l e rm_X1_choose s m args below meth c H locs 0 0 (MQ below (QV shC idsC G A out) args s 0 0 A) (F0 m 52 ls []) := by
  intro n
  induction n with
  | zero =>
    intro S x1 x2 x3 x4 H locs ls hW hS hl h
    cases h
  | succ n Kb =>
    generalize hkb : l_X1_choose_52 t k82 n = kb at Kb
    intro S x1 x2 x3 x4 H locs ls hW hS hl h
    rw [show l_X1_choose_52 t k82 (n + 1) = b_X1_choose_52 t (l_X1_choose_52 t k82 n) k82 from rfl, hkb] at h
    unfold b_X1_choose_52 at h
    refine lv_iload F.1 F.2.1 dX1_choose_52 (lv_at hl 4 rfl) ?_
    refine lv_sipush (v := 4096) F.1 F.2.1 dX1_choose_54 (by decide) ?_
    refine lv_icmp_ge (tgt := 82) F.1 F.2.1 dX1_choose_57 (by decide) (fun c_11 => ?_) (fun c_11 => ?_)
    · have h := (if_pos c_11).symm.trans h
      exact K82 _ _ _ _ _ _ _  hW hS (lv_sub hl [0, 1, 2, 3] rfl) h
    · have h := (if_neg c_11).symm.trans h
      refine lv_aload_n F.1 F.2.1 dX1_choose_60 rfl (lv_at hl 0 rfl) ?_
      refine rw_get (q0 := 6 + t) F hK hW (idC_6 _ ht) rfl rfl in_X1_choose_X1 2 (by decide) lk_X1_choose_55 rfl dX1_choose_61 ?_
      obtain ⟨r_13, S_14, hq_12, h⟩ := bi_some h
      refine rw_vi F hK hW hS [] (rest := []) (c_X4_next l G A  S (r_13, S_14) hq_12) (cwV 0 F.2.2.2.2 gX1_choose_X4_next rfl rfl rfl (by decide +kernel) ⟨Nat.le_of_ble_eq_true rfl, Nat.le_of_ble_eq_true rfl⟩) (rw_recv (q0 := 5) hK hW idC_5 rfl rfl) rfl hl.1 rfl (Nat.le_of_ble_eq_true rfl) dX1_choose_64 (fun H locs hW hS => ?_)
      refine lv_if_eq (tgt := 82) F.1 F.2.1 dX1_choose_67 (by decide) (fun c_15 => ?_) (fun c_15 => ?_)
      · have h := (if_pos c_15).symm.trans h
        exact K82 _ _ _ _ _ _ _  hW hS (lv_sub hl [0, 1, 2, 3] rfl) h
      · have h := (if_neg c_15).symm.trans h
        refine lv_aload_n F.1 F.2.1 dX1_choose_70 rfl (lv_at hl 0 rfl) ?_
        refine lv_iload_n F.1 F.2.1 dX1_choose_71 rfl (lv_at hl 1 rfl) ?_
        refine lv_iload_n F.1 F.2.1 dX1_choose_72 rfl (lv_at hl 3 rfl) ?_
        obtain ⟨q_16, hq_16, h⟩ := bv_some h
        refine rw_vv F hK hW hS [.int x1, .int x3] (rest := []) (c_X1_weigh l G A t ht x1 x3 S_14 q_16 hq_16) (cwV 2 F.2.2.2.2 gX1_choose_X1_weigh rfl rfl rfl (by decide +kernel) ⟨Nat.le_of_ble_eq_true rfl, Nat.le_of_ble_eq_true rfl⟩) (rw_recv (q0 := 6 + t) hK hW (idC_6 _ ht) rfl rfl) rfl hl.1 rfl (Nat.le_of_ble_eq_true rfl) dX1_choose_73 (fun H locs hW hS => ?_)
        obtain ⟨v_18, ev_18⟩ : ∃ y : Int32, y = x4 + 1 := ⟨_, rfl⟩
        have h := lt_n ev_18 h
        refine lv_iinc (v := v_18) (lv' := [(4, .int v_18), (0, .ref (G.2.2 6 t)), (1, .int x1), (2, .int x2), (3, .int x3)]) F.1 F.2.1 dX1_choose_76 hl (k := 4) rfl (by rw [ev_18]; rfl) (by decide) rfl (fun ls hl => ?_)
        refine lv_goto (tgt := 52) F.1 F.2.1 dX1_choose_79 (by decide) ?_
        exact Kb _ _ _ _ _ _ _ _  hW hS (lv_sub hl [1, 2, 3, 4, 0] rfl) h
set_option maxHeartbeats 4000000 in
set_option maxRecDepth 100000 in
theorem w_X1_choose_2 {p : Program} {l : Launch} {e : Env} {s : State} {m : MethodId} {args : Array Value} {below : List Frame} {meth : Method} {c : Code} {G : GT} {A : Nat → Prop} (F : CallFix p m c cX1_choose 5 s args wsX1_choose RX1) (hr : meth.sig.returnType = none) (hlk : meth.locks = false) (hK : va_K G.1 vwCl (tyl G) s) (t : Nat) (ht : t < 2) (out : St) : ∀ n : Nat, ∀ (S : St) (x1 : Int32) (x2 : Int32) (x3 : Int32) (H : Heap) (locs : List Loc) (ls : Array Slot), Wd shC idsC G A S H → va_S A s.heap H locs → lv_has ls 5 [(0, .ref (G.2.2 6 t)), (1, .int x1), (2, .int x2), (3, .int x3)] → l_X1_choose_2 t n S x1 x2 x3 = some out → W p l e rm_X1_choose s m args below meth c H locs 0 0 (MQ below (QV shC idsC G A out) args s 0 0 A) (F0 m 2 ls []) := by
  intro n
  induction n with
  | zero =>
    intro S x1 x2 x3 H locs ls hW hS hl h
    cases h
  | succ n Kb =>
    generalize hkb : l_X1_choose_2 t n = kb at Kb
    intro S x1 x2 x3 H locs ls hW hS hl h
    rw [show l_X1_choose_2 t (n + 1) = b_X1_choose_2 t (l_X1_choose_2 t n) from rfl, hkb] at h
    unfold b_X1_choose_2 at h
    refine lv_iload_n F.1 F.2.1 dX1_choose_2 rfl (lv_at hl 3 rfl) ?_
    refine lv_aload_n F.1 F.2.1 dX1_choose_3 rfl (lv_at hl 0 rfl) ?_
    refine rw_get (q0 := 6 + t) F hK hW (idC_6 _ ht) rfl rfl in_X1_choose_X1 1 (by decide) lk_X1_choose_51 rfl dX1_choose_4 ?_
    refine rw_get (q0 := 4) F hK hW idC_4 rfl rfl in_X1_choose_X3 1 (by decide) lk_X1_choose_80 rfl dX1_choose_7 ?_
    refine lv_icmp_ge (tgt := 88) F.1 F.2.1 dX1_choose_10 (by decide) (fun c_1 => ?_) (fun c_1 => ?_)
    · have h := (if_pos c_1).symm.trans h
      exact rw_retv F hr hlk hK hW hS h dX1_choose_88
    · have h := (if_neg c_1).symm.trans h
      refine lv_iload_n F.1 F.2.1 dX1_choose_13 rfl (lv_at hl 3 rfl) ?_
      refine lv_iload_n F.1 F.2.1 dX1_choose_14 rfl (lv_at hl 2 rfl) ?_
      refine lv_icmp_eq (tgt := 82) F.1 F.2.1 dX1_choose_15 (by decide) (fun c_2 => ?_) (fun c_2 => ?_)
      · have h := (if_pos c_2).symm.trans h
        exact w_X1_choose_82 F hr hlk hK t ht out kb Kb _ _ _ _ _ _ _  hW hS hl h
      · have h := (if_neg c_2).symm.trans h
        refine lv_aload_n F.1 F.2.1 dX1_choose_18 rfl (lv_at hl 0 rfl) ?_
        refine rw_get (q0 := 6 + t) F hK hW (idC_6 _ ht) rfl rfl in_X1_choose_X1 1 (by decide) lk_X1_choose_51 rfl dX1_choose_19 ?_
        refine lv_iload_n F.1 F.2.1 dX1_choose_22 rfl (lv_at hl 3 rfl) ?_
        obtain ⟨r_5, S_6, hq_4, h⟩ := bi_some h
        refine rw_vi F hK hW hS [.int x3] (rest := []) (c_X3_has l G A x3 S (r_5, S_6) hq_4) (cwV 1 F.2.2.2.2 gX1_choose_X3_has rfl rfl rfl (by decide +kernel) ⟨Nat.le_of_ble_eq_true rfl, Nat.le_of_ble_eq_true rfl⟩) (rw_recv (q0 := 4) hK hW idC_4 rfl rfl) rfl hl.1 rfl (Nat.le_of_ble_eq_true rfl) dX1_choose_23 (fun H locs hW hS => ?_)
        refine lv_if_ne (tgt := 32) F.1 F.2.1 dX1_choose_26 (by decide) (fun c_7 => ?_) (fun c_7 => ?_)
        · have h := (if_neg c_7).symm.trans h
          refine lv_aload_n F.1 F.2.1 dX1_choose_32 rfl (lv_at hl 0 rfl) ?_
          refine rw_get (q0 := 6 + t) F hK hW (idC_6 _ ht) rfl rfl in_X1_choose_X1 2 (by decide) lk_X1_choose_55 rfl dX1_choose_33 ?_
          refine lv_aload_n F.1 F.2.1 dX1_choose_36 rfl (lv_at hl 0 rfl) ?_
          refine rw_get (q0 := 6 + t) F hK hW (idC_6 _ ht) rfl rfl in_X1_choose_X1 1 (by decide) lk_X1_choose_51 rfl dX1_choose_37 ?_
          refine rw_get (q0 := 4) F hK hW idC_4 rfl rfl in_X1_choose_X3 0 (by decide) lk_X1_choose_87 rfl dX1_choose_40 ?_
          refine lv_iload_n F.1 F.2.1 dX1_choose_43 rfl (lv_at hl 3 rfl) ?_
          obtain ⟨b_8, h⟩ := gd_some h
          refine rw_aald (q0 := 44) F hK hW idC_24 (fun _ => rfl) (ix_in b_8) dX1_choose_44 ?_
          refine lv_iload_n F.1 F.2.1 dX1_choose_45 rfl (lv_at hl 1 rfl) ?_
          obtain ⟨q_9, hq_9, h⟩ := bv_some h
          refine rw_vv F hK hW hS [.ref (G.2.2 8 x3.toNatClampNeg), .int x1] (rest := []) (c_X4_begin l G A x3.toNatClampNeg x1 (ix_lt b_8) S_6 q_9 hq_9) (cwV 2 F.2.2.2.2 gX1_choose_X4_begin rfl rfl rfl (by decide +kernel) ⟨Nat.le_of_ble_eq_true rfl, Nat.le_of_ble_eq_true rfl⟩) (rw_recv (q0 := 5) hK hW idC_5 rfl rfl) rfl hl.1 rfl (Nat.le_of_ble_eq_true rfl) dX1_choose_46 (fun H locs hW hS => ?_)
          refine lv_iconst (v := 0) F.1 F.2.1 dX1_choose_49 (by decide) ?_
          refine lv_istore (lv' := [(4, .int 0), (0, .ref (G.2.2 6 t)), (1, .int x1), (2, .int x2), (3, .int x3)]) F.1 F.2.1 dX1_choose_50 hl (by decide) rfl (fun ls hl => ?_)
          refine w_X1_choose_52 F hr hlk hK t ht out _ ?_ 5000 _ _ _ _ _ _ _ _  hW hS (lv_sub hl [1, 2, 3, 4, 0] rfl) h
          · intro S x1 x2 x3 H locs ls hW hS hl h
            exact w_X1_choose_82 F hr hlk hK t ht out kb Kb _ _ _ _ _ _ _  hW hS hl h
        · have h := (if_pos c_7).symm.trans h
          refine lv_goto (tgt := 82) F.1 F.2.1 dX1_choose_29 (by decide) ?_
          exact w_X1_choose_82 F hr hlk hK t ht out kb Kb _ _ _ _ _ _ _  hW hS hl h
set_option maxHeartbeats 4000000 in
set_option maxRecDepth 100000 in
theorem c_X1_choose (l : Launch) (G : GT) (A : Nat → Prop) (t : Nat) (ht : t < 2) (a0 : Int32) (a1 : Int32) (S : St) (out : St) (h : f_X1_choose t a0 a1 S = some out) : Met l yX1_choose wsX1_choose rm_X1_choose (va_Pc [.ref (G.2.2 6 t), .int a0, .int a1] (WD shC idsC G A S)) (QV shC idsC G A out) 0 0 A := by
  refine Met.ofW (cc := cX1_choose) (maxL := 5) (ret := none) (by decide) rfl ?_
  intro p e s m args below meth c s₁ B hml hv
  obtain ⟨rfl, hW, hK⟩ := hv
  have F : CallFix p m c cX1_choose 5 s _ wsX1_choose RX1 := ⟨B.exec, B.bytes, hml, findClass_of_methodNamed B.named, atoms_spec (ws := wsX1_choose) B.pre⟩
  have hr := B.returns
  have hlk := B.notSynchronized
  have hS : va_S A s.heap s.heap [] := va_S.rf
  have hl := lv_entry ([.ref (G.2.2 6 t), .int a0, .int a1]) (n := 5) (Nat.le_of_ble_eq_true rfl)
  rw [lg_entry_eq]
  generalize (lg_sl ([.ref (G.2.2 6 t), .int a0, .int a1]) ++ List.replicate (5 - (lg_sl ([.ref (G.2.2 6 t), .int a0, .int a1])).length) Slot.unset).toArray = ls at hl ⊢
  have hl : lv_has ls 5 [(0, .ref (G.2.2 6 t)), (1, .int a0), (2, .int a1)] := hl
  unfold f_X1_choose at h
  refine lv_iconst (v := 0) F.1 F.2.1 dX1_choose_0 (by decide) ?_
  refine lv_istore_n (lv' := [(3, .int 0), (0, .ref (G.2.2 6 t)), (1, .int a0), (2, .int a1)]) F.1 F.2.1 dX1_choose_1 rfl hl (by decide) rfl (fun ls hl => ?_)
  refine w_X1_choose_2 F hr hlk hK t ht out   5000 _ _ _ _ _ _ _  hW hS (lv_sub hl [1, 2, 3, 0] rfl) h
/-! CellCover$Cover.addInstance(I)V -/
abbrev rm_X1_addInstance : Room := { frames := 1, cells := 0, slots := 0, locals := 21 }
theorem in_X1_addInstance_X1 : ∀ w ∈ wsX10, w ∈ wsX1_addInstance := by decide +kernel
theorem in_X1_addInstance_X3 : ∀ w ∈ wsX30, w ∈ wsX1_addInstance := by decide +kernel
theorem in_X1_addInstance_X0 : ∀ w ∈ wsX00, w ∈ wsX1_addInstance := by decide +kernel
theorem lk_X1_addInstance_27 : Cond.fieldLink RX1 27 "CellCover$Cover" "stands" "[Z" ∈ wsX1_addInstance := by decide +kernel
theorem lk_X1_addInstance_37 : Cond.fieldLink RX1 37 "CellCover$Cover" "instances" "I" ∈ wsX1_addInstance := by decide +kernel
theorem lk_X1_addInstance_51 : Cond.fieldLink RX1 51 "CellCover$Cover" "library" "LCellCover$Library;" ∈ wsX1_addInstance := by decide +kernel
theorem lk_X1_addInstance_18 : Cond.fieldLink RX1 18 "CellCover$Cover" "cellOf" "[I" ∈ wsX1_addInstance := by decide +kernel
theorem lk_X1_addInstance_24 : Cond.fieldLink RX1 24 "CellCover$Cover" "instanceAt" "[I" ∈ wsX1_addInstance := by decide +kernel
theorem lk_X1_addInstance_41 : Cond.fieldLink RX1 41 "CellCover$Cover" "wholeArea" "I" ∈ wsX1_addInstance := by decide +kernel
theorem lk_X1_addInstance_87 : Cond.fieldLink RX1 87 "CellCover$Library" "cells" "[LCellCover$Cell;" ∈ wsX1_addInstance := by decide +kernel
theorem lk_X1_addInstance_104 : Cond.fieldLink RX1 104 "CellCover$Cell" "area" "I" ∈ wsX1_addInstance := by decide +kernel
set_option maxHeartbeats 4000000 in
set_option maxRecDepth 100000 in
theorem w_X1_addInstance_35 {p : Program} {l : Launch} {e : Env} {s : State} {m : MethodId} {args : Array Value} {below : List Frame} {meth : Method} {c : Code} {G : GT} {A : Nat → Prop} (F : CallFix p m c cX1_addInstance 2 s args wsX1_addInstance RX1) (hr : meth.sig.returnType = none) (hlk : meth.locks = false) (hK : va_K G.1 vwCl (tyl G) s) (t : Nat) (ht : t < 2) (out : St) : ∀ (S : St) (H : Heap) (locs : List Loc) (ls : Array Slot), Wd shC idsC G A S H → va_S A s.heap H locs → lv_has ls 2 [] → j_X1_addInstance_35 t S = some out → W p l e rm_X1_addInstance s m args below meth c H locs 0 0 (MQ below (QV shC idsC G A out) args s 0 0 A) (F0 m 35 ls []) := by
  intro S H locs ls hW hS hl h
  unfold j_X1_addInstance_35 at h
  exact rw_retv F hr hlk hK hW hS h dX1_addInstance_35
set_option maxHeartbeats 4000000 in
set_option maxRecDepth 100000 in
theorem c_X1_addInstance (l : Launch) (G : GT) (A : Nat → Prop) (t : Nat) (ht : t < 2) (a0 : Int32) (S : St) (out : St) (h : f_X1_addInstance t a0 S = some out) : Met l yX1_addInstance wsX1_addInstance rm_X1_addInstance (va_Pc [.ref (G.2.2 6 t), .int a0] (WD shC idsC G A S)) (QV shC idsC G A out) 0 0 A := by
  refine Met.ofW (cc := cX1_addInstance) (maxL := 2) (ret := none) (by decide) rfl ?_
  intro p e s m args below meth c s₁ B hml hv
  obtain ⟨rfl, hW, hK⟩ := hv
  have F : CallFix p m c cX1_addInstance 2 s _ wsX1_addInstance RX1 := ⟨B.exec, B.bytes, hml, findClass_of_methodNamed B.named, atoms_spec (ws := wsX1_addInstance) B.pre⟩
  have hr := B.returns
  have hlk := B.notSynchronized
  have hS : va_S A s.heap s.heap [] := va_S.rf
  have hl := lv_entry ([.ref (G.2.2 6 t), .int a0]) (n := 2) (Nat.le_of_ble_eq_true rfl)
  rw [lg_entry_eq]
  generalize (lg_sl ([.ref (G.2.2 6 t), .int a0]) ++ List.replicate (2 - (lg_sl ([.ref (G.2.2 6 t), .int a0])).length) Slot.unset).toArray = ls at hl ⊢
  have hl : lv_has ls 2 [(0, .ref (G.2.2 6 t)), (1, .int a0)] := hl
  unfold f_X1_addInstance at h
  refine lv_aload_n F.1 F.2.1 dX1_addInstance_0 rfl (lv_at hl 0 rfl) ?_
  refine rw_get (q0 := 6 + t) F hK hW (idC_6 _ ht) rfl rfl in_X1_addInstance_X1 8 (by decide) lk_X1_addInstance_27 rfl dX1_addInstance_1 ?_
  refine lv_iload_n F.1 F.2.1 dX1_addInstance_4 rfl (lv_at hl 1 rfl) ?_
  obtain ⟨b_1, h⟩ := gd_some h
  refine rw_zald (q0 := 57 + t) F hK hW (idC_32 _ ht) (fun _ => rfl) (ix_in b_1) dX1_addInstance_5 ?_
  refine lv_topi (fun v_2 ev_2 => ?_)
  have h := lt_n ev_2 h
  refine lv_if_ne (tgt := 35) F.1 F.2.1 dX1_addInstance_6 (by decide) (fun c_3 => ?_) (fun c_3 => ?_)
  · have h := (if_neg c_3).symm.trans h
    exact w_X1_addInstance_35 F hr hlk hK t ht out  _ _ _ _  hW hS (lv_sub hl [] rfl) h
  · have h := (if_pos c_3).symm.trans h
    refine lv_aload_n F.1 F.2.1 dX1_addInstance_9 rfl (lv_at hl 0 rfl) ?_
    refine rw_get (q0 := 6 + t) F hK hW (idC_6 _ ht) rfl rfl in_X1_addInstance_X1 11 (by decide) lk_X1_addInstance_37 rfl dX1_addInstance_10 ?_
    refine lv_sipush (v := 160) F.1 F.2.1 dX1_addInstance_13 (by decide) ?_
    refine lv_icmp_ge (tgt := 35) F.1 F.2.1 dX1_addInstance_16 (by decide) (fun c_4 => ?_) (fun c_4 => ?_)
    · have h := (if_pos c_4).symm.trans h
      exact w_X1_addInstance_35 F hr hlk hK t ht out  _ _ _ _  hW hS (lv_sub hl [] rfl) h
    · have h := (if_neg c_4).symm.trans h
      refine lv_aload_n F.1 F.2.1 dX1_addInstance_19 rfl (lv_at hl 0 rfl) ?_
      refine rw_get (q0 := 6 + t) F hK hW (idC_6 _ ht) rfl rfl in_X1_addInstance_X1 1 (by decide) lk_X1_addInstance_51 rfl dX1_addInstance_20 ?_
      refine lv_aload_n F.1 F.2.1 dX1_addInstance_23 rfl (lv_at hl 0 rfl) ?_
      refine rw_get (q0 := 6 + t) F hK hW (idC_6 _ ht) rfl rfl in_X1_addInstance_X1 5 (by decide) lk_X1_addInstance_18 rfl dX1_addInstance_24 ?_
      refine lv_iload_n F.1 F.2.1 dX1_addInstance_27 rfl (lv_at hl 1 rfl) ?_
      obtain ⟨b_5, h⟩ := gd_some h
      refine rw_iald (q0 := 51 + t) F hK hW (idC_29 _ ht) (fun _ => rfl) (ix_in b_5) dX1_addInstance_28 ?_
      refine lv_topi (fun v_6 ev_6 => ?_)
      have h := lt_n ev_6 h
      obtain ⟨r_8, S_9, hq_7, h⟩ := bi_some h
      refine rw_vi F hK hW hS [.int v_6] (rest := []) (c_X3_has l G A v_6 S (r_8, S_9) hq_7) (cwV 1 F.2.2.2.2 gX1_addInstance_X3_has rfl rfl rfl (by decide +kernel) ⟨Nat.le_of_ble_eq_true rfl, Nat.le_of_ble_eq_true rfl⟩) (rw_recv (q0 := 4) hK hW idC_4 rfl rfl) rfl hl.1 rfl (Nat.le_of_ble_eq_true rfl) dX1_addInstance_29 (fun H locs hW hS => ?_)
      refine lv_if_ne (tgt := 36) F.1 F.2.1 dX1_addInstance_32 (by decide) (fun c_10 => ?_) (fun c_10 => ?_)
      · have h := (if_neg c_10).symm.trans h
        refine lv_aload_n F.1 F.2.1 dX1_addInstance_36 rfl (lv_at hl 0 rfl) ?_
        refine rw_get (q0 := 6 + t) F hK hW (idC_6 _ ht) rfl rfl in_X1_addInstance_X1 8 (by decide) lk_X1_addInstance_27 rfl dX1_addInstance_37 ?_
        refine lv_iload_n F.1 F.2.1 dX1_addInstance_40 rfl (lv_at hl 1 rfl) ?_
        refine lv_iconst (v := 1) F.1 F.2.1 dX1_addInstance_41 (by decide) ?_
        obtain ⟨b_11, h⟩ := gd_some h
        refine rw_zast ndC (q0 := 57 + t) F hK hW hS (idC_32 _ ht) (fun _ => rfl) (ix_in b_11) dX1_addInstance_42 (fun H locs S_12 eS_12 hW hS => ?_)
        have h := lt_n eS_12 h
        refine lv_aload_n F.1 F.2.1 dX1_addInstance_43 rfl (lv_at hl 0 rfl) ?_
        refine rw_get (q0 := 6 + t) F hK hW (idC_6 _ ht) rfl rfl in_X1_addInstance_X1 7 (by decide) lk_X1_addInstance_24 rfl dX1_addInstance_44 ?_
        refine lv_aload_n F.1 F.2.1 dX1_addInstance_47 rfl (lv_at hl 0 rfl) ?_
        refine rw_get (q0 := 6 + t) F hK hW (idC_6 _ ht) rfl rfl in_X1_addInstance_X1 11 (by decide) lk_X1_addInstance_37 rfl dX1_addInstance_48 ?_
        refine lv_iload_n F.1 F.2.1 dX1_addInstance_51 rfl (lv_at hl 1 rfl) ?_
        obtain ⟨b_13, h⟩ := gd_some h
        refine rw_iast ndC (q0 := 55 + t) F hK hW hS (idC_31 _ ht) (fun _ => rfl) (ix_in b_13) dX1_addInstance_52 (fun H locs S_14 eS_14 hW hS => ?_)
        have h := lt_n eS_14 h
        refine lv_aload_n F.1 F.2.1 dX1_addInstance_53 rfl (lv_at hl 0 rfl) ?_
        refine lv_dup F.1 F.2.1 dX1_addInstance_54 rfl ?_
        refine rw_get (q0 := 6 + t) F hK hW (idC_6 _ ht) rfl rfl in_X1_addInstance_X1 11 (by decide) lk_X1_addInstance_37 rfl dX1_addInstance_55 ?_
        refine lv_iconst (v := 1) F.1 F.2.1 dX1_addInstance_58 (by decide) ?_
        refine lv_iadd F.1 F.2.1 dX1_addInstance_59 ?_
        refine rw_put ndC (q0 := 6 + t) (x := (S_14 6 t 11) + 1) F hK hW hS (idC_6 _ ht) rfl rfl in_X1_addInstance_X1 tyX1 tyX1_ok nmX1 11 (by decide) lk_X1_addInstance_37 rfl (ty := .int) (by decide +kernel) rfl rfl (Nat.le_of_ble_eq_true rfl) rfl dX1_addInstance_60 (fun H locs S_15 eS_15 hW hS => ?_)
        have h := lt_n eS_15 h
        refine lv_aload_n F.1 F.2.1 dX1_addInstance_63 rfl (lv_at hl 0 rfl) ?_
        refine lv_dup F.1 F.2.1 dX1_addInstance_64 rfl ?_
        refine rw_get (q0 := 6 + t) F hK hW (idC_6 _ ht) rfl rfl in_X1_addInstance_X1 12 (by decide) lk_X1_addInstance_41 rfl dX1_addInstance_65 ?_
        refine lv_aload_n F.1 F.2.1 dX1_addInstance_68 rfl (lv_at hl 0 rfl) ?_
        refine rw_get (q0 := 6 + t) F hK hW (idC_6 _ ht) rfl rfl in_X1_addInstance_X1 1 (by decide) lk_X1_addInstance_51 rfl dX1_addInstance_69 ?_
        refine rw_get (q0 := 4) F hK hW idC_4 rfl rfl in_X1_addInstance_X3 0 (by decide) lk_X1_addInstance_87 rfl dX1_addInstance_72 ?_
        refine lv_aload_n F.1 F.2.1 dX1_addInstance_75 rfl (lv_at hl 0 rfl) ?_
        refine rw_get (q0 := 6 + t) F hK hW (idC_6 _ ht) rfl rfl in_X1_addInstance_X1 5 (by decide) lk_X1_addInstance_18 rfl dX1_addInstance_76 ?_
        refine lv_iload_n F.1 F.2.1 dX1_addInstance_79 rfl (lv_at hl 1 rfl) ?_
        obtain ⟨b_16, h⟩ := gd_some h
        refine rw_iald (q0 := 51 + t) F hK hW (idC_29 _ ht) (fun _ => rfl) (ix_in b_16) dX1_addInstance_80 ?_
        refine lv_topi (fun v_17 ev_17 => ?_)
        have h := lt_n ev_17 h
        obtain ⟨b_18, h⟩ := gd_some h
        refine rw_aald (q0 := 44) F hK hW idC_24 (fun _ => rfl) (ix_in b_18) dX1_addInstance_81 ?_
        refine rw_get (q0 := 9 + v_17.toNatClampNeg) F hK hW (idC_8 _ (ix_lt b_18)) rfl rfl in_X1_addInstance_X0 4 (by decide) lk_X1_addInstance_104 rfl dX1_addInstance_82 ?_
        refine lv_iadd F.1 F.2.1 dX1_addInstance_85 ?_
        refine rw_put ndC (q0 := 6 + t) (x := (S_15 6 t 12) + (S_15 8 v_17.toNatClampNeg 4)) F hK hW hS (idC_6 _ ht) rfl rfl in_X1_addInstance_X1 tyX1 tyX1_ok nmX1 12 (by decide) lk_X1_addInstance_41 rfl (ty := .int) (by decide +kernel) rfl rfl (Nat.le_of_ble_eq_true rfl) rfl dX1_addInstance_86 (fun H locs S_19 eS_19 hW hS => ?_)
        have h := lt_n eS_19 h
        exact rw_retv F hr hlk hK hW hS h dX1_addInstance_89
      · have h := (if_pos c_10).symm.trans h
        exact w_X1_addInstance_35 F hr hlk hK t ht out  _ _ _ _  hW hS (lv_sub hl [] rfl) h
/-! CellCover$Cover.pinOf(II)I -/
abbrev rm_X1_pinOf : Room := { frames := 0, cells := 0, slots := 0, locals := 0 }
theorem in_X1_pinOf_X1 : ∀ w ∈ wsX10, w ∈ wsX1_pinOf := by decide +kernel
theorem lk_X1_pinOf_18 : Cond.fieldLink RX1 18 "CellCover$Cover" "cellOf" "[I" ∈ wsX1_pinOf := by decide +kernel
theorem lk_X1_pinOf_21 : Cond.fieldLink RX1 21 "CellCover$Cover" "pinsOf" "[I" ∈ wsX1_pinOf := by decide +kernel
set_option maxHeartbeats 4000000 in
set_option maxRecDepth 100000 in
theorem w_X1_pinOf_27 {p : Program} {l : Launch} {e : Env} {s : State} {m : MethodId} {args : Array Value} {below : List Frame} {meth : Method} {c : Code} {G : GT} {A : Nat → Prop} (F : CallFix p m c cX1_pinOf 3 s args wsX1_pinOf RX1) (hr : meth.sig.returnType = (some .int)) (hlk : meth.locks = false) (hK : va_K G.1 vwCl (tyl G) s) (t : Nat) (ht : t < 2) (out : Int32 × St) : ∀ (S : St) (y0 : Int32) (H : Heap) (locs : List Loc) (ls : Array Slot), Wd shC idsC G A S H → va_S A s.heap H locs → lv_has ls 3 [] → j_X1_pinOf_27 t S y0 = some out → W p l e rm_X1_pinOf s m args below meth c H locs 0 0 (MQ below (QI shC idsC G A out) args s 0 0 A) (F0 m 27 ls [.int y0]) := by
  intro S y0 H locs ls hW hS hl h
  unfold j_X1_pinOf_27 at h
  exact rw_ret F hr hlk hK hW hS h dX1_pinOf_27
set_option maxHeartbeats 4000000 in
set_option maxRecDepth 100000 in
theorem c_X1_pinOf (l : Launch) (G : GT) (A : Nat → Prop) (t : Nat) (ht : t < 2) (a0 : Int32) (a1 : Int32) (S : St) (out : Int32 × St) (h : f_X1_pinOf t a0 a1 S = some out) : Met l yX1_pinOf wsX1_pinOf rm_X1_pinOf (va_Pc [.ref (G.2.2 6 t), .int a0, .int a1] (WD shC idsC G A S)) (QI shC idsC G A out) 0 0 A := by
  refine Met.ofW (cc := cX1_pinOf) (maxL := 3) (ret := (some .int)) (by decide) rfl ?_
  intro p e s m args below meth c s₁ B hml hv
  obtain ⟨rfl, hW, hK⟩ := hv
  have F : CallFix p m c cX1_pinOf 3 s _ wsX1_pinOf RX1 := ⟨B.exec, B.bytes, hml, findClass_of_methodNamed B.named, atoms_spec (ws := wsX1_pinOf) B.pre⟩
  have hr := B.returns
  have hlk := B.notSynchronized
  have hS : va_S A s.heap s.heap [] := va_S.rf
  have hl := lv_entry ([.ref (G.2.2 6 t), .int a0, .int a1]) (n := 3) (Nat.le_of_ble_eq_true rfl)
  rw [lg_entry_eq]
  generalize (lg_sl ([.ref (G.2.2 6 t), .int a0, .int a1]) ++ List.replicate (3 - (lg_sl ([.ref (G.2.2 6 t), .int a0, .int a1])).length) Slot.unset).toArray = ls at hl ⊢
  have hl : lv_has ls 3 [(0, .ref (G.2.2 6 t)), (1, .int a0), (2, .int a1)] := hl
  unfold f_X1_pinOf at h
  refine lv_aload_n F.1 F.2.1 dX1_pinOf_0 rfl (lv_at hl 0 rfl) ?_
  refine rw_get (q0 := 6 + t) F hK hW (idC_6 _ ht) rfl rfl in_X1_pinOf_X1 5 (by decide) lk_X1_pinOf_18 rfl dX1_pinOf_1 ?_
  refine lv_iload_n F.1 F.2.1 dX1_pinOf_4 rfl (lv_at hl 1 rfl) ?_
  obtain ⟨b_1, h⟩ := gd_some h
  refine rw_iald (q0 := 51 + t) F hK hW (idC_29 _ ht) (fun _ => rfl) (ix_in b_1) dX1_pinOf_5 ?_
  refine lv_topi (fun v_2 ev_2 => ?_)
  have h := lt_n ev_2 h
  refine lv_bipush (v := -4) F.1 F.2.1 dX1_pinOf_6 (by decide) ?_
  refine lv_icmp_ne (tgt := 16) F.1 F.2.1 dX1_pinOf_8 (by decide) (fun c_3 => ?_) (fun c_3 => ?_)
  · have h := (if_neg c_3).symm.trans h
    refine lv_aload_n F.1 F.2.1 dX1_pinOf_16 rfl (lv_at hl 0 rfl) ?_
    refine rw_get (q0 := 6 + t) F hK hW (idC_6 _ ht) rfl rfl in_X1_pinOf_X1 6 (by decide) lk_X1_pinOf_21 rfl dX1_pinOf_17 ?_
    refine lv_iload_n F.1 F.2.1 dX1_pinOf_20 rfl (lv_at hl 1 rfl) ?_
    refine lv_bipush (v := 6) F.1 F.2.1 dX1_pinOf_21 (by decide) ?_
    refine lv_imul F.1 F.2.1 dX1_pinOf_23 ?_
    refine lv_iload_n F.1 F.2.1 dX1_pinOf_24 rfl (lv_at hl 2 rfl) ?_
    refine lv_iadd F.1 F.2.1 dX1_pinOf_25 ?_
    obtain ⟨b_4, h⟩ := gd_some h
    refine rw_iald (q0 := 53 + t) F hK hW (idC_30 _ ht) (fun _ => rfl) (ix_in b_4) dX1_pinOf_26 ?_
    refine lv_topi (fun v_5 ev_5 => ?_)
    have h := lt_n ev_5 h
    exact w_X1_pinOf_27 F hr hlk hK t ht out  _ _ _ _ _  hW hS (lv_sub hl [] rfl) h
  · have h := (if_pos c_3).symm.trans h
    refine lv_bipush (v := -4) F.1 F.2.1 dX1_pinOf_11 (by decide) ?_
    refine lv_goto (tgt := 27) F.1 F.2.1 dX1_pinOf_13 (by decide) ?_
    exact w_X1_pinOf_27 F hr hlk hK t ht out  _ _ _ _ _  hW hS (lv_sub hl [] rfl) h
/-! CellCover$Cover.isInside(I)Z -/
abbrev rm_X1_isInside : Room := { frames := 0, cells := 0, slots := 0, locals := 0 }
theorem in_X1_isInside_X1 : ∀ w ∈ wsX10, w ∈ wsX1_isInside := by decide +kernel
theorem in_X1_isInside_X7 : ∀ w ∈ wsX70, w ∈ wsX1_isInside := by decide +kernel
theorem lk_X1_isInside_47 : Cond.fieldLink RX1 47 "CellCover$Cover" "vertices" "LCellCover$Vertices;" ∈ wsX1_isInside := by decide +kernel
theorem lk_X1_isInside_59 : Cond.fieldLink RX1 59 "CellCover$Vertices" "form" "[I" ∈ wsX1_isInside := by decide +kernel
theorem lk_X1_isInside_74 : Cond.fieldLink RX1 74 "CellCover$Vertices" "root" "[Z" ∈ wsX1_isInside := by decide +kernel
theorem lk_X1_isInside_27 : Cond.fieldLink RX1 27 "CellCover$Cover" "stands" "[Z" ∈ wsX1_isInside := by decide +kernel
set_option maxHeartbeats 4000000 in
set_option maxRecDepth 100000 in
theorem w_X1_isInside_38 {p : Program} {l : Launch} {e : Env} {s : State} {m : MethodId} {args : Array Value} {below : List Frame} {meth : Method} {c : Code} {G : GT} {A : Nat → Prop} (F : CallFix p m c cX1_isInside 2 s args wsX1_isInside RX1) (hr : meth.sig.returnType = (some .boolean)) (hlk : meth.locks = false) (hK : va_K G.1 vwCl (tyl G) s) (t : Nat) (ht : t < 2) (out : Int32 × St) : ∀ (S : St) (y0 : Int32) (H : Heap) (locs : List Loc) (ls : Array Slot), Wd shC idsC G A S H → va_S A s.heap H locs → lv_has ls 2 [] → j_X1_isInside_38 t S y0 = some out → W p l e rm_X1_isInside s m args below meth c H locs 0 0 (MQ below (QI shC idsC G A out) args s 0 0 A) (F0 m 38 ls [.int y0]) := by
  intro S y0 H locs ls hW hS hl h
  unfold j_X1_isInside_38 at h
  obtain ⟨b_4, h⟩ := gd_some h
  exact rw_retz F hr hlk hK hW hS b_4 h dX1_isInside_38
set_option maxHeartbeats 4000000 in
set_option maxRecDepth 100000 in
theorem w_X1_isInside_37 {p : Program} {l : Launch} {e : Env} {s : State} {m : MethodId} {args : Array Value} {below : List Frame} {meth : Method} {c : Code} {G : GT} {A : Nat → Prop} (F : CallFix p m c cX1_isInside 2 s args wsX1_isInside RX1) (hr : meth.sig.returnType = (some .boolean)) (hlk : meth.locks = false) (hK : va_K G.1 vwCl (tyl G) s) (t : Nat) (ht : t < 2) (out : Int32 × St) : ∀ (S : St) (H : Heap) (locs : List Loc) (ls : Array Slot), Wd shC idsC G A S H → va_S A s.heap H locs → lv_has ls 2 [] → j_X1_isInside_37 t S = some out → W p l e rm_X1_isInside s m args below meth c H locs 0 0 (MQ below (QI shC idsC G A out) args s 0 0 A) (F0 m 37 ls []) := by
  intro S H locs ls hW hS hl h
  unfold j_X1_isInside_37 at h
  refine lv_iconst (v := 0) F.1 F.2.1 dX1_isInside_37 (by decide) ?_
  exact w_X1_isInside_38 F hr hlk hK t ht out  _ _ _ _ _  hW hS hl h
set_option maxHeartbeats 4000000 in
set_option maxRecDepth 100000 in
theorem c_X1_isInside (l : Launch) (G : GT) (A : Nat → Prop) (t : Nat) (ht : t < 2) (a0 : Int32) (S : St) (out : Int32 × St) (h : f_X1_isInside t a0 S = some out) : Met l yX1_isInside wsX1_isInside rm_X1_isInside (va_Pc [.ref (G.2.2 6 t), .int a0] (WD shC idsC G A S)) (QI shC idsC G A out) 0 0 A := by
  refine Met.ofW (cc := cX1_isInside) (maxL := 2) (ret := (some .boolean)) (by decide) rfl ?_
  intro p e s m args below meth c s₁ B hml hv
  obtain ⟨rfl, hW, hK⟩ := hv
  have F : CallFix p m c cX1_isInside 2 s _ wsX1_isInside RX1 := ⟨B.exec, B.bytes, hml, findClass_of_methodNamed B.named, atoms_spec (ws := wsX1_isInside) B.pre⟩
  have hr := B.returns
  have hlk := B.notSynchronized
  have hS : va_S A s.heap s.heap [] := va_S.rf
  have hl := lv_entry ([.ref (G.2.2 6 t), .int a0]) (n := 2) (Nat.le_of_ble_eq_true rfl)
  rw [lg_entry_eq]
  generalize (lg_sl ([.ref (G.2.2 6 t), .int a0]) ++ List.replicate (2 - (lg_sl ([.ref (G.2.2 6 t), .int a0])).length) Slot.unset).toArray = ls at hl ⊢
  have hl : lv_has ls 2 [(0, .ref (G.2.2 6 t)), (1, .int a0)] := hl
  unfold f_X1_isInside at h
  refine lv_aload_n F.1 F.2.1 dX1_isInside_0 rfl (lv_at hl 0 rfl) ?_
  refine rw_get (q0 := 6 + t) F hK hW (idC_6 _ ht) rfl rfl in_X1_isInside_X1 0 (by decide) lk_X1_isInside_47 rfl dX1_isInside_1 ?_
  refine rw_get (q0 := 1) F hK hW idC_1 rfl rfl in_X1_isInside_X7 0 (by decide) lk_X1_isInside_59 rfl dX1_isInside_4 ?_
  refine lv_iload_n F.1 F.2.1 dX1_isInside_7 rfl (lv_at hl 1 rfl) ?_
  obtain ⟨b_1, h⟩ := gd_some h
  refine rw_iald (q0 := 29) F hK hW idC_9 (fun _ => rfl) (ix_in b_1) dX1_isInside_8 ?_
  refine lv_topi (fun v_2 ev_2 => ?_)
  have h := lt_n ev_2 h
  refine lv_if_eq (tgt := 37) F.1 F.2.1 dX1_isInside_9 (by decide) (fun c_3 => ?_) (fun c_3 => ?_)
  · have h := (if_pos c_3).symm.trans h
    exact w_X1_isInside_37 F hr hlk hK t ht out  _ _ _ _  hW hS (lv_sub hl [] rfl) h
  · have h := (if_neg c_3).symm.trans h
    refine lv_aload_n F.1 F.2.1 dX1_isInside_12 rfl (lv_at hl 0 rfl) ?_
    refine rw_get (q0 := 6 + t) F hK hW (idC_6 _ ht) rfl rfl in_X1_isInside_X1 0 (by decide) lk_X1_isInside_47 rfl dX1_isInside_13 ?_
    refine rw_get (q0 := 1) F hK hW idC_1 rfl rfl in_X1_isInside_X7 5 (by decide) lk_X1_isInside_74 rfl dX1_isInside_16 ?_
    refine lv_iload_n F.1 F.2.1 dX1_isInside_19 rfl (lv_at hl 1 rfl) ?_
    obtain ⟨b_5, h⟩ := gd_some h
    refine rw_zald (q0 := 34) F hK hW idC_14 (fun _ => rfl) (ix_in b_5) dX1_isInside_20 ?_
    refine lv_topi (fun v_6 ev_6 => ?_)
    have h := lt_n ev_6 h
    refine lv_if_ne (tgt := 37) F.1 F.2.1 dX1_isInside_21 (by decide) (fun c_7 => ?_) (fun c_7 => ?_)
    · have h := (if_neg c_7).symm.trans h
      exact w_X1_isInside_37 F hr hlk hK t ht out  _ _ _ _  hW hS (lv_sub hl [] rfl) h
    · have h := (if_pos c_7).symm.trans h
      refine lv_aload_n F.1 F.2.1 dX1_isInside_24 rfl (lv_at hl 0 rfl) ?_
      refine rw_get (q0 := 6 + t) F hK hW (idC_6 _ ht) rfl rfl in_X1_isInside_X1 8 (by decide) lk_X1_isInside_27 rfl dX1_isInside_25 ?_
      refine lv_iload_n F.1 F.2.1 dX1_isInside_28 rfl (lv_at hl 1 rfl) ?_
      obtain ⟨b_8, h⟩ := gd_some h
      refine rw_zald (q0 := 57 + t) F hK hW (idC_32 _ ht) (fun _ => rfl) (ix_in b_8) dX1_isInside_29 ?_
      refine lv_topi (fun v_9 ev_9 => ?_)
      have h := lt_n ev_9 h
      refine lv_if_ne (tgt := 37) F.1 F.2.1 dX1_isInside_30 (by decide) (fun c_10 => ?_) (fun c_10 => ?_)
      · have h := (if_neg c_10).symm.trans h
        exact w_X1_isInside_37 F hr hlk hK t ht out  _ _ _ _  hW hS (lv_sub hl [] rfl) h
      · have h := (if_pos c_10).symm.trans h
        refine lv_iconst (v := 1) F.1 F.2.1 dX1_isInside_33 (by decide) ?_
        refine lv_goto (tgt := 38) F.1 F.2.1 dX1_isInside_34 (by decide) ?_
        exact w_X1_isInside_38 F hr hlk hK t ht out  _ _ _ _ _  hW hS (lv_sub hl [] rfl) h
/-! CellCover$Cover.listBeneath(I)V -/
abbrev rm_X1_listBeneath : Room := { frames := 2, cells := 0, slots := 0, locals := 42 }
theorem in_X1_listBeneath_X1 : ∀ w ∈ wsX10, w ∈ wsX1_listBeneath := by decide +kernel
theorem lk_X1_listBeneath_31 : Cond.fieldLink RX1 31 "CellCover$Cover" "waiting" "[I" ∈ wsX1_listBeneath := by decide +kernel
set_option maxHeartbeats 4000000 in
set_option maxRecDepth 100000 in
theorem w_X1_listBeneath_91 {p : Program} {l : Launch} {e : Env} {s : State} {m : MethodId} {args : Array Value} {below : List Frame} {meth : Method} {c : Code} {G : GT} {A : Nat → Prop} (F : CallFix p m c cX1_listBeneath 7 s args wsX1_listBeneath RX1) (hr : meth.sig.returnType = none) (hlk : meth.locks = false) (hK : va_K G.1 vwCl (tyl G) s) (t : Nat) (ht : t < 2) (out : St) (kb : St → Int32 → Int32 → Int32 → Int32 → Option (St)) (k97 : St → Int32 → Int32 → Option (St)) (Kb : ∀ (S : St) (x2 : Int32) (x3 : Int32) (x4 : Int32) (x5 : Int32) (H : Heap) (locs : List Loc) (ls : Array Slot), Wd shC idsC G A S H → va_S A s.heap H locs → lv_has ls 7 [(0, .ref (G.2.2 6 t)), (2, .int x2), (3, .int x3), (4, .int x4), (5, .int x5)] → kb S x2 x3 x4 x5 = some out → W p l e rm_X1_listBeneath s m args below meth c H locs 0 0 (MQ below (QV shC idsC G A out) args s 0 0 A) (F0 m 42 ls [])) (K97 : ∀ (S : St) (x2 : Int32) (x3 : Int32) (H : Heap) (locs : List Loc) (ls : Array Slot), Wd shC idsC G A S H → va_S A s.heap H locs → lv_has ls 7 [(0, .ref (G.2.2 6 t)), (2, .int x2), (3, .int x3)] → k97 S x2 x3 = some out → W p l e rm_X1_listBeneath s m args below meth c H locs 0 0 (MQ below (QV shC idsC G A out) args s 0 0 A) (F0 m 97 ls [])) : ∀ (S : St) (x2 : Int32) (x3 : Int32) (x4 : Int32) (x5 : Int32) (H : Heap) (locs : List Loc) (ls : Array Slot), Wd shC idsC G A S H → va_S A s.heap H locs → lv_has ls 7 [(0, .ref (G.2.2 6 t)), (2, .int x2), (3, .int x3), (4, .int x4), (5, .int x5)] → j_X1_listBeneath_91 t kb k97 S x2 x3 x4 x5 = some out → W p l e rm_X1_listBeneath s m args below meth c H locs 0 0 (MQ below (QV shC idsC G A out) args s 0 0 A) (F0 m 91 ls []) := by
  intro S x2 x3 x4 x5 H locs ls hW hS hl h
  unfold j_X1_listBeneath_91 at h
  obtain ⟨v_15, ev_15⟩ : ∃ y : Int32, y = x5 + (-1) := ⟨_, rfl⟩
  have h := lt_n ev_15 h
  refine lv_iinc (v := v_15) (lv' := [(5, .int v_15), (0, .ref (G.2.2 6 t)), (2, .int x2), (3, .int x3), (4, .int x4)]) F.1 F.2.1 dX1_listBeneath_91 hl (k := 4) rfl (by rw [ev_15]; rfl) (by decide) rfl (fun ls hl => ?_)
  refine lv_goto (tgt := 42) F.1 F.2.1 dX1_listBeneath_94 (by decide) ?_
  exact Kb _ _ _ _ _ _ _ _  hW hS (lv_sub hl [1, 2, 3, 4, 0] rfl) h
set_option maxHeartbeats 4000000 in
set_option maxRecDepth 100000 in
theorem w_X1_listBeneath_42 {p : Program} {l : Launch} {e : Env} {s : State} {m : MethodId} {args : Array Value} {below : List Frame} {meth : Method} {c : Code} {G : GT} {A : Nat → Prop} (F : CallFix p m c cX1_listBeneath 7 s args wsX1_listBeneath RX1) (hr : meth.sig.returnType = none) (hlk : meth.locks = false) (hK : va_K G.1 vwCl (tyl G) s) (t : Nat) (ht : t < 2) (out : St) (k97 : St → Int32 → Int32 → Option (St)) (K97 : ∀ (S : St) (x2 : Int32) (x3 : Int32) (H : Heap) (locs : List Loc) (ls : Array Slot), Wd shC idsC G A S H → va_S A s.heap H locs → lv_has ls 7 [(0, .ref (G.2.2 6 t)), (2, .int x2), (3, .int x3)] → k97 S x2 x3 = some out → W p l e rm_X1_listBeneath s m args below meth c H locs 0 0 (MQ below (QV shC idsC G A out) args s 0 0 A) (F0 m 97 ls [])) : ∀ n : Nat, ∀ (S : St) (x2 : Int32) (x3 : Int32) (x4 : Int32) (x5 : Int32) (H : Heap) (locs : List Loc) (ls : Array Slot), Wd shC idsC G A S H → va_S A s.heap H locs → lv_has ls 7 [(0, .ref (G.2.2 6 t)), (2, .int x2), (3, .int x3), (4, .int x4), (5, .int x5)] → l_X1_listBeneath_42 t k97 n S x2 x3 x4 x5 = some out → W p l e rm_X1_listBeneath s m args below meth c H locs 0 0 (MQ below (QV shC idsC G A out) args s 0 0 A) (F0 m 42 ls []) := by
  intro n
  induction n with
  | zero =>
    intro S x2 x3 x4 x5 H locs ls hW hS hl h
    cases h
  | succ n Kb =>
    generalize hkb : l_X1_listBeneath_42 t k97 n = kb at Kb
    intro S x2 x3 x4 x5 H locs ls hW hS hl h
    rw [show l_X1_listBeneath_42 t k97 (n + 1) = b_X1_listBeneath_42 t (l_X1_listBeneath_42 t k97 n) k97 from rfl, hkb] at h
    unfold b_X1_listBeneath_42 at h
    refine lv_iload F.1 F.2.1 dX1_listBeneath_42 (lv_at hl 4 rfl) ?_
    refine lv_if_lt (tgt := 97) F.1 F.2.1 dX1_listBeneath_44 (by decide) (fun c_10 => ?_) (fun c_10 => ?_)
    · have h := (if_pos c_10).symm.trans h
      exact K97 _ _ _ _ _ _  hW hS (lv_sub hl [0, 1, 2] rfl) h
    · have h := (if_neg c_10).symm.trans h
      refine lv_aload_n F.1 F.2.1 dX1_listBeneath_47 rfl (lv_at hl 0 rfl) ?_
      refine lv_iload F.1 F.2.1 dX1_listBeneath_48 (lv_at hl 3 rfl) ?_
      refine lv_iload F.1 F.2.1 dX1_listBeneath_50 (lv_at hl 4 rfl) ?_
      obtain ⟨r_12, S_13, hq_11, h⟩ := bi_some h
      refine rw_vi F hK hW hS [.int x4, .int x5] (rest := []) (c_X1_pinOf l G A t ht x4 x5 S (r_12, S_13) hq_11) (cwV 2 F.2.2.2.2 gX1_listBeneath_X1_pinOf rfl rfl rfl (by decide +kernel) ⟨Nat.le_of_ble_eq_true rfl, Nat.le_of_ble_eq_true rfl⟩) (rw_recv (q0 := 6 + t) hK hW (idC_6 _ ht) rfl rfl) rfl hl.1 rfl (Nat.le_of_ble_eq_true rfl) dX1_listBeneath_52 (fun H locs hW hS => ?_)
      refine lv_istore (lv' := [(6, .int r_12), (0, .ref (G.2.2 6 t)), (2, .int x2), (3, .int x3), (4, .int x4), (5, .int x5)]) F.1 F.2.1 dX1_listBeneath_55 hl (by decide) rfl (fun ls hl => ?_)
      refine lv_iload F.1 F.2.1 dX1_listBeneath_57 (lv_at hl 0 rfl) ?_
      refine lv_bipush (v := -4) F.1 F.2.1 dX1_listBeneath_59 (by decide) ?_
      refine lv_icmp_eq (tgt := 91) F.1 F.2.1 dX1_listBeneath_61 (by decide) (fun c_14 => ?_) (fun c_14 => ?_)
      · have h := (if_pos c_14).symm.trans h
        exact w_X1_listBeneath_91 F hr hlk hK t ht out kb k97 Kb K97 _ _ _ _ _ _ _ _  hW hS (lv_sub hl [1, 2, 3, 4, 5] rfl) h
      · have h := (if_neg c_14).symm.trans h
        refine lv_aload_n F.1 F.2.1 dX1_listBeneath_64 rfl (lv_at hl 1 rfl) ?_
        refine lv_iload F.1 F.2.1 dX1_listBeneath_65 (lv_at hl 0 rfl) ?_
        obtain ⟨r_17, S_18, hq_16, h⟩ := bi_some h
        refine rw_vi F hK hW hS [.int r_12] (rest := []) (c_X1_isInside l G A t ht r_12 S_13 (r_17, S_18) hq_16) (cwV 1 F.2.2.2.2 gX1_listBeneath_X1_isInside rfl rfl rfl (by decide +kernel) ⟨Nat.le_of_ble_eq_true rfl, Nat.le_of_ble_eq_true rfl⟩) (rw_recv (q0 := 6 + t) hK hW (idC_6 _ ht) rfl rfl) rfl hl.1 rfl (Nat.le_of_ble_eq_true rfl) dX1_listBeneath_67 (fun H locs hW hS => ?_)
        refine lv_if_eq (tgt := 91) F.1 F.2.1 dX1_listBeneath_70 (by decide) (fun c_19 => ?_) (fun c_19 => ?_)
        · have h := (if_pos c_19).symm.trans h
          exact w_X1_listBeneath_91 F hr hlk hK t ht out kb k97 Kb K97 _ _ _ _ _ _ _ _  hW hS (lv_sub hl [1, 2, 3, 4, 5] rfl) h
        · have h := (if_neg c_19).symm.trans h
          refine lv_iload_n F.1 F.2.1 dX1_listBeneath_73 rfl (lv_at hl 2 rfl) ?_
          refine lv_sipush (v := 160) F.1 F.2.1 dX1_listBeneath_74 (by decide) ?_
          refine lv_icmp_ge (tgt := 91) F.1 F.2.1 dX1_listBeneath_77 (by decide) (fun c_20 => ?_) (fun c_20 => ?_)
          · have h := (if_pos c_20).symm.trans h
            exact w_X1_listBeneath_91 F hr hlk hK t ht out kb k97 Kb K97 _ _ _ _ _ _ _ _  hW hS (lv_sub hl [1, 2, 3, 4, 5] rfl) h
          · have h := (if_neg c_20).symm.trans h
            refine lv_aload_n F.1 F.2.1 dX1_listBeneath_80 rfl (lv_at hl 1 rfl) ?_
            refine rw_get (q0 := 6 + t) F hK hW (idC_6 _ ht) rfl rfl in_X1_listBeneath_X1 9 (by decide) lk_X1_listBeneath_31 rfl dX1_listBeneath_81 ?_
            refine lv_iload_n F.1 F.2.1 dX1_listBeneath_84 rfl (lv_at hl 2 rfl) ?_
            refine lv_iload F.1 F.2.1 dX1_listBeneath_85 (lv_at hl 0 rfl) ?_
            obtain ⟨b_21, h⟩ := gd_some h
            refine rw_iast ndC (q0 := 59 + t) F hK hW hS (idC_33 _ ht) (fun _ => rfl) (ix_in b_21) dX1_listBeneath_87 (fun H locs S_22 eS_22 hW hS => ?_)
            have h := lt_n eS_22 h
            obtain ⟨v_23, ev_23⟩ : ∃ y : Int32, y = x2 + 1 := ⟨_, rfl⟩
            have h := lt_n ev_23 h
            refine lv_iinc (v := v_23) (lv' := [(2, .int v_23), (6, .int r_12), (0, .ref (G.2.2 6 t)), (3, .int x3), (4, .int x4), (5, .int x5)]) F.1 F.2.1 dX1_listBeneath_88 hl (k := 2) rfl (by rw [ev_23]; rfl) (by decide) rfl (fun ls hl => ?_)
            exact w_X1_listBeneath_91 F hr hlk hK t ht out kb k97 Kb K97 _ _ _ _ _ _ _ _  hW hS (lv_sub hl [2, 0, 3, 4, 5] rfl) h
set_option maxHeartbeats 4000000 in
set_option maxRecDepth 100000 in
theorem w_X1_listBeneath_11 {p : Program} {l : Launch} {e : Env} {s : State} {m : MethodId} {args : Array Value} {below : List Frame} {meth : Method} {c : Code} {G : GT} {A : Nat → Prop} (F : CallFix p m c cX1_listBeneath 7 s args wsX1_listBeneath RX1) (hr : meth.sig.returnType = none) (hlk : meth.locks = false) (hK : va_K G.1 vwCl (tyl G) s) (t : Nat) (ht : t < 2) (out : St) : ∀ n : Nat, ∀ (S : St) (x2 : Int32) (x3 : Int32) (H : Heap) (locs : List Loc) (ls : Array Slot), Wd shC idsC G A S H → va_S A s.heap H locs → lv_has ls 7 [(0, .ref (G.2.2 6 t)), (2, .int x2), (3, .int x3)] → l_X1_listBeneath_11 t n S x2 x3 = some out → W p l e rm_X1_listBeneath s m args below meth c H locs 0 0 (MQ below (QV shC idsC G A out) args s 0 0 A) (F0 m 11 ls []) := by
  intro n
  induction n with
  | zero =>
    intro S x2 x3 H locs ls hW hS hl h
    cases h
  | succ n Kb =>
    generalize hkb : l_X1_listBeneath_11 t n = kb at Kb
    intro S x2 x3 H locs ls hW hS hl h
    rw [show l_X1_listBeneath_11 t (n + 1) = b_X1_listBeneath_11 t (l_X1_listBeneath_11 t n) from rfl, hkb] at h
    unfold b_X1_listBeneath_11 at h
    refine lv_iload_n F.1 F.2.1 dX1_listBeneath_11 rfl (lv_at hl 2 rfl) ?_
    refine lv_sipush (v := 160) F.1 F.2.1 dX1_listBeneath_12 (by decide) ?_
    refine lv_icmp_ge (tgt := 103) F.1 F.2.1 dX1_listBeneath_15 (by decide) (fun c_3 => ?_) (fun c_3 => ?_)
    · have h := (if_pos c_3).symm.trans h
      exact rw_retv F hr hlk hK hW hS h dX1_listBeneath_103
    · have h := (if_neg c_3).symm.trans h
      refine lv_iload_n F.1 F.2.1 dX1_listBeneath_18 rfl (lv_at hl 1 rfl) ?_
      refine lv_if_le (tgt := 103) F.1 F.2.1 dX1_listBeneath_19 (by decide) (fun c_4 => ?_) (fun c_4 => ?_)
      · have h := (if_pos c_4).symm.trans h
        exact rw_retv F hr hlk hK hW hS h dX1_listBeneath_103
      · have h := (if_neg c_4).symm.trans h
        obtain ⟨v_5, ev_5⟩ : ∃ y : Int32, y = x2 + (-1) := ⟨_, rfl⟩
        have h := lt_n ev_5 h
        refine lv_iinc (v := v_5) (lv' := [(2, .int v_5), (0, .ref (G.2.2 6 t)), (3, .int x3)]) F.1 F.2.1 dX1_listBeneath_22 hl (k := 1) rfl (by rw [ev_5]; rfl) (by decide) rfl (fun ls hl => ?_)
        refine lv_aload_n F.1 F.2.1 dX1_listBeneath_25 rfl (lv_at hl 1 rfl) ?_
        refine rw_get (q0 := 6 + t) F hK hW (idC_6 _ ht) rfl rfl in_X1_listBeneath_X1 9 (by decide) lk_X1_listBeneath_31 rfl dX1_listBeneath_26 ?_
        refine lv_iload_n F.1 F.2.1 dX1_listBeneath_29 rfl (lv_at hl 0 rfl) ?_
        obtain ⟨b_6, h⟩ := gd_some h
        refine rw_iald (q0 := 59 + t) F hK hW (idC_33 _ ht) (fun _ => rfl) (ix_in b_6) dX1_listBeneath_30 ?_
        refine lv_topi (fun v_7 ev_7 => ?_)
        have h := lt_n ev_7 h
        refine lv_istore (lv' := [(4, .int v_7), (2, .int v_5), (0, .ref (G.2.2 6 t)), (3, .int x3)]) F.1 F.2.1 dX1_listBeneath_31 hl (by decide) rfl (fun ls hl => ?_)
        refine lv_aload_n F.1 F.2.1 dX1_listBeneath_33 rfl (lv_at hl 2 rfl) ?_
        refine lv_iload F.1 F.2.1 dX1_listBeneath_34 (lv_at hl 0 rfl) ?_
        obtain ⟨q_8, hq_8, h⟩ := bv_some h
        refine rw_vv F hK hW hS [.int v_7] (rest := []) (c_X1_addInstance l G A t ht v_7 S q_8 hq_8) (cwV 1 F.2.2.2.2 gX1_listBeneath_X1_addInstance rfl rfl rfl (by decide +kernel) ⟨Nat.le_of_ble_eq_true rfl, Nat.le_of_ble_eq_true rfl⟩) (rw_recv (q0 := 6 + t) hK hW (idC_6 _ ht) rfl rfl) rfl hl.1 rfl (Nat.le_of_ble_eq_true rfl) dX1_listBeneath_36 (fun H locs hW hS => ?_)
        refine lv_iconst (v := 5) F.1 F.2.1 dX1_listBeneath_39 (by decide) ?_
        refine lv_istore (lv' := [(5, .int 5), (4, .int v_7), (2, .int v_5), (0, .ref (G.2.2 6 t)), (3, .int x3)]) F.1 F.2.1 dX1_listBeneath_40 hl (by decide) rfl (fun ls hl => ?_)
        refine w_X1_listBeneath_42 F hr hlk hK t ht out _ ?_ 5000 _ _ _ _ _ _ _ _  hW hS (lv_sub hl [3, 2, 4, 1, 0] rfl) h
        · intro S x2 x3 H locs ls hW hS hl h
          obtain ⟨v_24, ev_24⟩ : ∃ y : Int32, y = x3 + 1 := ⟨_, rfl⟩
          have h := lt_n ev_24 h
          refine lv_iinc (v := v_24) (lv' := [(3, .int v_24), (0, .ref (G.2.2 6 t)), (2, .int x2)]) F.1 F.2.1 dX1_listBeneath_97 hl (k := 2) rfl (by rw [ev_24]; rfl) (by decide) rfl (fun ls hl => ?_)
          refine lv_goto (tgt := 11) F.1 F.2.1 dX1_listBeneath_100 (by decide) ?_
          exact Kb _ _ _ _ _ _  hW hS (lv_sub hl [1, 2, 0] rfl) h
set_option maxHeartbeats 4000000 in
set_option maxRecDepth 100000 in
theorem c_X1_listBeneath (l : Launch) (G : GT) (A : Nat → Prop) (t : Nat) (ht : t < 2) (a0 : Int32) (S : St) (out : St) (h : f_X1_listBeneath t a0 S = some out) : Met l yX1_listBeneath wsX1_listBeneath rm_X1_listBeneath (va_Pc [.ref (G.2.2 6 t), .int a0] (WD shC idsC G A S)) (QV shC idsC G A out) 0 0 A := by
  refine Met.ofW (cc := cX1_listBeneath) (maxL := 7) (ret := none) (by decide) rfl ?_
  intro p e s m args below meth c s₁ B hml hv
  obtain ⟨rfl, hW, hK⟩ := hv
  have F : CallFix p m c cX1_listBeneath 7 s _ wsX1_listBeneath RX1 := ⟨B.exec, B.bytes, hml, findClass_of_methodNamed B.named, atoms_spec (ws := wsX1_listBeneath) B.pre⟩
  have hr := B.returns
  have hlk := B.notSynchronized
  have hS : va_S A s.heap s.heap [] := va_S.rf
  have hl := lv_entry ([.ref (G.2.2 6 t), .int a0]) (n := 7) (Nat.le_of_ble_eq_true rfl)
  rw [lg_entry_eq]
  generalize (lg_sl ([.ref (G.2.2 6 t), .int a0]) ++ List.replicate (7 - (lg_sl ([.ref (G.2.2 6 t), .int a0])).length) Slot.unset).toArray = ls at hl ⊢
  have hl : lv_has ls 7 [(0, .ref (G.2.2 6 t)), (1, .int a0)] := hl
  unfold f_X1_listBeneath at h
  refine lv_aload_n F.1 F.2.1 dX1_listBeneath_0 rfl (lv_at hl 0 rfl) ?_
  refine rw_get (q0 := 6 + t) F hK hW (idC_6 _ ht) rfl rfl in_X1_listBeneath_X1 9 (by decide) lk_X1_listBeneath_31 rfl dX1_listBeneath_1 ?_
  refine lv_iconst (v := 0) F.1 F.2.1 dX1_listBeneath_4 (by decide) ?_
  refine lv_iload_n F.1 F.2.1 dX1_listBeneath_5 rfl (lv_at hl 1 rfl) ?_
  obtain ⟨b_1, h⟩ := gd_some h
  refine rw_iast ndC (q0 := 59 + t) F hK hW hS (idC_33 _ ht) (fun _ => rfl) (ix_in b_1) dX1_listBeneath_6 (fun H locs S_2 eS_2 hW hS => ?_)
  have h := lt_n eS_2 h
  refine lv_iconst (v := 1) F.1 F.2.1 dX1_listBeneath_7 (by decide) ?_
  refine lv_istore_n (lv' := [(2, .int 1), (0, .ref (G.2.2 6 t)), (1, .int a0)]) F.1 F.2.1 dX1_listBeneath_8 rfl hl (by decide) rfl (fun ls hl => ?_)
  refine lv_iconst (v := 0) F.1 F.2.1 dX1_listBeneath_9 (by decide) ?_
  refine lv_istore_n (lv' := [(3, .int 0), (2, .int 1), (0, .ref (G.2.2 6 t)), (1, .int a0)]) F.1 F.2.1 dX1_listBeneath_10 rfl hl (by decide) rfl (fun ls hl => ?_)
  refine w_X1_listBeneath_11 F hr hlk hK t ht out   5000 _ _ _ _ _ _  hW hS (lv_sub hl [2, 1, 0] rfl) h
