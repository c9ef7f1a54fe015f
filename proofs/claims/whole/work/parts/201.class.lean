/-! CellCover$Vertices.nandOf(II)I -/
abbrev rm_X7_nandOf : Room := { frames := 1, cells := 0, slots := 0, locals := 24 }
theorem in_X7_nandOf_X7 : ∀ w ∈ wsX70, w ∈ wsX7_nandOf := by decide +kernel
theorem lk_X7_nandOf_1066 : Cond.methodLink RX7 66 Lib.Math.max.name ∈ wsX7_nandOf := by decide +kernel
theorem lk_X7_nandOf_2000 : Cond.static Lib.Math.max.name ∈ wsX7_nandOf := by decide +kernel
theorem lk_X7_nandOf_2001 : Cond.initialized "java/lang/Math" ∈ wsX7_nandOf := by decide +kernel
theorem lk_X7_nandOf_2002 : Cond.code Lib.Math.max.name Lib.Math.max.code 2 (some .int) ∈ wsX7_nandOf := by decide +kernel
theorem lk_X7_nandOf_31 : Cond.fieldLink RX7 31 "CellCover$Vertices" "many" "I" ∈ wsX7_nandOf := by decide +kernel
theorem lk_X7_nandOf_9 : Cond.fieldLink RX7 9 "CellCover$Vertices" "form" "[I" ∈ wsX7_nandOf := by decide +kernel
set_option maxHeartbeats 4000000 in
set_option maxRecDepth 100000 in
theorem w_X7_nandOf_38 {p : Program} {l : Launch} {e : Env} {s : State} {m : MethodId} {args : Array Value} {below : List Frame} {meth : Method} {c : Code} {G : GT} {A : Nat → Prop} (F : CallFix p m c cX7_nandOf 4 s args wsX7_nandOf RX7) (hr : meth.sig.returnType = (some .int)) (hlk : meth.locks = false) (hK : va_K G.1 vwCl (tyl G) s) (out : Int32 × St) (kb : St → Int32 → Int32 → Int32 → Option (Int32 × St)) (Kb : ∀ (S : St) (x1 : Int32) (x2 : Int32) (x3 : Int32) (H : Heap) (locs : List Loc) (ls : Array Slot), Wd shC idsC G A S H → va_S A s.heap H locs → lv_has ls 4 [(0, .ref (G.2.2 1 0)), (1, .int x1), (2, .int x2), (3, .int x3)] → kb S x1 x2 x3 = some out → W p l e rm_X7_nandOf s m args below meth c H locs 0 0 (MQ below (QI shC idsC G A out) args s 0 0 A) (F0 m 8 ls [])) : ∀ (S : St) (x1 : Int32) (x2 : Int32) (x3 : Int32) (H : Heap) (locs : List Loc) (ls : Array Slot), Wd shC idsC G A S H → va_S A s.heap H locs → lv_has ls 4 [(0, .ref (G.2.2 1 0)), (1, .int x1), (2, .int x2), (3, .int x3)] → j_X7_nandOf_38 kb S x1 x2 x3 = some out → W p l e rm_X7_nandOf s m args below meth c H locs 0 0 (MQ below (QI shC idsC G A out) args s 0 0 A) (F0 m 38 ls []) := by
  intro S x1 x2 x3 H locs ls hW hS hl h
  unfold j_X7_nandOf_38 at h
  obtain ⟨v_10, ev_10⟩ : ∃ y : Int32, y = x3 + 1 := ⟨_, rfl⟩
  have h := lt_n ev_10 h
  refine lv_iinc (v := v_10) (lv' := [(3, .int v_10), (0, .ref (G.2.2 1 0)), (1, .int x1), (2, .int x2)]) F.1 F.2.1 dX7_nandOf_38 hl (k := 3) rfl (by rw [ev_10]; rfl) (by decide) rfl (fun ls hl => ?_)
  refine lv_goto (tgt := 8) F.1 F.2.1 dX7_nandOf_41 (by decide) ?_
  exact Kb _ _ _ _ _ _ _  hW hS (lv_sub hl [1, 2, 3, 0] rfl) h
set_option maxHeartbeats 4000000 in
set_option maxRecDepth 100000 in
theorem w_X7_nandOf_8 {p : Program} {l : Launch} {e : Env} {s : State} {m : MethodId} {args : Array Value} {below : List Frame} {meth : Method} {c : Code} {G : GT} {A : Nat → Prop} (F : CallFix p m c cX7_nandOf 4 s args wsX7_nandOf RX7) (hr : meth.sig.returnType = (some .int)) (hlk : meth.locks = false) (hK : va_K G.1 vwCl (tyl G) s) (out : Int32 × St) : ∀ n : Nat, ∀ (S : St) (x1 : Int32) (x2 : Int32) (x3 : Int32) (H : Heap) (locs : List Loc) (ls : Array Slot), Wd shC idsC G A S H → va_S A s.heap H locs → lv_has ls 4 [(0, .ref (G.2.2 1 0)), (1, .int x1), (2, .int x2), (3, .int x3)] → l_X7_nandOf_8 n S x1 x2 x3 = some out → W p l e rm_X7_nandOf s m args below meth c H locs 0 0 (MQ below (QI shC idsC G A out) args s 0 0 A) (F0 m 8 ls []) := by
  intro n
  induction n with
  | zero =>
    intro S x1 x2 x3 H locs ls hW hS hl h
    cases h
  | succ n Kb =>
    generalize hkb : l_X7_nandOf_8 n = kb at Kb
    intro S x1 x2 x3 H locs ls hW hS hl h
    rw [show l_X7_nandOf_8 (n + 1) = b_X7_nandOf_8 (l_X7_nandOf_8 n) from rfl, hkb] at h
    unfold b_X7_nandOf_8 at h
    refine lv_iload_n F.1 F.2.1 dX7_nandOf_8 rfl (lv_at hl 3 rfl) ?_
    refine lv_aload_n F.1 F.2.1 dX7_nandOf_9 rfl (lv_at hl 0 rfl) ?_
    refine rw_get (q0 := 1) F hK hW idC_1 rfl rfl in_X7_nandOf_X7 6 (by decide) lk_X7_nandOf_31 rfl dX7_nandOf_10 ?_
    refine lv_icmp_ge (tgt := 44) F.1 F.2.1 dX7_nandOf_13 (by decide) (fun c_3 => ?_) (fun c_3 => ?_)
    · have h := (if_pos c_3).symm.trans h
      refine lv_aload_n F.1 F.2.1 dX7_nandOf_44 rfl (lv_at hl 0 rfl) ?_
      refine lv_iconst (v := 2) F.1 F.2.1 dX7_nandOf_45 (by decide) ?_
      refine lv_iload_n F.1 F.2.1 dX7_nandOf_46 rfl (lv_at hl 1 rfl) ?_
      refine lv_iload_n F.1 F.2.1 dX7_nandOf_47 rfl (lv_at hl 2 rfl) ?_
      obtain ⟨r_5, S_6, hq_4, h⟩ := bi_some h
      refine rw_vi F hK hW hS [.int 2, .int x1, .int x2] (rest := []) (c_X7_add l G A 2 x1 x2 S (r_5, S_6) hq_4) (cwV 3 F.2.2.2.2 gX7_nandOf_X7_add rfl rfl rfl (by decide +kernel) ⟨Nat.le_of_ble_eq_true rfl, Nat.le_of_ble_eq_true rfl⟩) (rw_recv (q0 := 1) hK hW idC_1 rfl rfl) rfl hl.1 rfl (Nat.le_of_ble_eq_true rfl) dX7_nandOf_48 (fun H locs hW hS => ?_)
      exact rw_ret F hr hlk hK hW hS h dX7_nandOf_51
    · have h := (if_neg c_3).symm.trans h
      refine lv_aload_n F.1 F.2.1 dX7_nandOf_16 rfl (lv_at hl 0 rfl) ?_
      refine rw_get (q0 := 1) F hK hW idC_1 rfl rfl in_X7_nandOf_X7 0 (by decide) lk_X7_nandOf_9 rfl dX7_nandOf_17 ?_
      refine lv_iload_n F.1 F.2.1 dX7_nandOf_20 rfl (lv_at hl 3 rfl) ?_
      obtain ⟨b_7, h⟩ := gd_some h
      refine rw_iald (q0 := 29) F hK hW idC_9 (fun _ => rfl) (ix_in b_7) dX7_nandOf_21 ?_
      refine lv_topi (fun v_8 ev_8 => ?_)
      have h := lt_n ev_8 h
      refine lv_iconst (v := 2) F.1 F.2.1 dX7_nandOf_22 (by decide) ?_
      refine lv_icmp_ne (tgt := 38) F.1 F.2.1 dX7_nandOf_23 (by decide) (fun c_9 => ?_) (fun c_9 => ?_)
      · have h := (if_neg c_9).symm.trans h
        exact w_X7_nandOf_38 F hr hlk hK out kb Kb _ _ _ _ _ _ _  hW hS hl h
      · have h := (if_pos c_9).symm.trans h
        refine lv_aload_n F.1 F.2.1 dX7_nandOf_26 rfl (lv_at hl 0 rfl) ?_
        refine lv_iload_n F.1 F.2.1 dX7_nandOf_27 rfl (lv_at hl 3 rfl) ?_
        refine lv_iload_n F.1 F.2.1 dX7_nandOf_28 rfl (lv_at hl 1 rfl) ?_
        refine lv_iload_n F.1 F.2.1 dX7_nandOf_29 rfl (lv_at hl 2 rfl) ?_
        obtain ⟨r_12, S_13, hq_11, h⟩ := bi_some h
        refine rw_vi F hK hW hS [.int x3, .int x1, .int x2] (rest := []) (c_X7_isOf l G A x3 x1 x2 S (r_12, S_13) hq_11) (cwV 3 F.2.2.2.2 gX7_nandOf_X7_isOf rfl rfl rfl (by decide +kernel) ⟨Nat.le_of_ble_eq_true rfl, Nat.le_of_ble_eq_true rfl⟩) (rw_recv (q0 := 1) hK hW idC_1 rfl rfl) rfl hl.1 rfl (Nat.le_of_ble_eq_true rfl) dX7_nandOf_30 (fun H locs hW hS => ?_)
        refine lv_if_eq (tgt := 38) F.1 F.2.1 dX7_nandOf_33 (by decide) (fun c_14 => ?_) (fun c_14 => ?_)
        · have h := (if_pos c_14).symm.trans h
          exact w_X7_nandOf_38 F hr hlk hK out kb Kb _ _ _ _ _ _ _  hW hS hl h
        · have h := (if_neg c_14).symm.trans h
          refine lv_iload_n F.1 F.2.1 dX7_nandOf_36 rfl (lv_at hl 3 rfl) ?_
          exact rw_ret F hr hlk hK hW hS h dX7_nandOf_37
set_option maxHeartbeats 4000000 in
set_option maxRecDepth 100000 in
theorem c_X7_nandOf (l : Launch) (G : GT) (A : Nat → Prop) (a0 : Int32) (a1 : Int32) (S : St) (out : Int32 × St) (h : f_X7_nandOf a0 a1 S = some out) : Met l yX7_nandOf wsX7_nandOf rm_X7_nandOf (va_Pc [.ref (G.2.2 1 0), .int a0, .int a1] (WD shC idsC G A S)) (QI shC idsC G A out) 0 0 A := by
  refine Met.ofW (cc := cX7_nandOf) (maxL := 4) (ret := (some .int)) (by decide) rfl ?_
  intro p e s m args below meth c s₁ B hml hv
  obtain ⟨rfl, hW, hK⟩ := hv
  have F : CallFix p m c cX7_nandOf 4 s _ wsX7_nandOf RX7 := ⟨B.exec, B.bytes, hml, findClass_of_methodNamed B.named, atoms_spec (ws := wsX7_nandOf) B.pre⟩
  have hr := B.returns
  have hlk := B.notSynchronized
  have hS : va_S A s.heap s.heap [] := va_S.rf
  have hl := lv_entry ([.ref (G.2.2 1 0), .int a0, .int a1]) (n := 4) (Nat.le_of_ble_eq_true rfl)
  rw [lg_entry_eq]
  generalize (lg_sl ([.ref (G.2.2 1 0), .int a0, .int a1]) ++ List.replicate (4 - (lg_sl ([.ref (G.2.2 1 0), .int a0, .int a1])).length) Slot.unset).toArray = ls at hl ⊢
  have hl : lv_has ls 4 [(0, .ref (G.2.2 1 0)), (1, .int a0), (2, .int a1)] := hl
  unfold f_X7_nandOf at h
  refine lv_iload_n F.1 F.2.1 dX7_nandOf_0 rfl (lv_at hl 1 rfl) ?_
  refine lv_iload_n F.1 F.2.1 dX7_nandOf_1 rfl (lv_at hl 2 rfl) ?_
  refine va_mmax F.1 F.2.1 (F.2.2.1.trans hl.1.symm) F.2.2.2.1 (F.2.2.2.2 _ lk_X7_nandOf_1066) (F.2.2.2.2 _ lk_X7_nandOf_2000) (F.2.2.2.2 _ lk_X7_nandOf_2001) (F.2.2.2.2 _ lk_X7_nandOf_2002) (Nat.le_of_ble_eq_true rfl) (Nat.le_of_ble_eq_true rfl) (Nat.zero_le _) (Nat.zero_le _) dX7_nandOf_2 ?_
  refine lv_topi (fun v_1 ev_1 => ?_)
  have h := lt_n ev_1 h
  refine lv_iconst (v := 1) F.1 F.2.1 dX7_nandOf_5 (by decide) ?_
  refine lv_iadd F.1 F.2.1 dX7_nandOf_6 ?_
  refine lv_topi (fun v_2 ev_2 => ?_)
  have h := lt_n ev_2 h
  refine lv_istore_n (lv' := [(3, .int v_2), (0, .ref (G.2.2 1 0)), (1, .int a0), (2, .int a1)]) F.1 F.2.1 dX7_nandOf_7 rfl hl (by decide) rfl (fun ls hl => ?_)
  refine w_X7_nandOf_8 F hr hlk hK out   5000 _ _ _ _ _ _ _  hW hS (lv_sub hl [1, 2, 3, 0] rfl) h
/-! CellCover$Vertices.nandOfInverses(II)I -/
abbrev rm_X7_nandOfInverses : Room := { frames := 2, cells := 0, slots := 0, locals := 47 }
set_option maxHeartbeats 4000000 in
set_option maxRecDepth 100000 in
theorem c_X7_nandOfInverses (l : Launch) (G : GT) (A : Nat → Prop) (a0 : Int32) (a1 : Int32) (S : St) (out : Int32 × St) (h : f_X7_nandOfInverses a0 a1 S = some out) : Met l yX7_nandOfInverses wsX7_nandOfInverses rm_X7_nandOfInverses (va_Pc [.ref (G.2.2 1 0), .int a0, .int a1] (WD shC idsC G A S)) (QI shC idsC G A out) 0 0 A := by
  refine Met.ofW (cc := cX7_nandOfInverses) (maxL := 5) (ret := (some .int)) (by decide) rfl ?_
  intro p e s m args below meth c s₁ B hml hv
  obtain ⟨rfl, hW, hK⟩ := hv
  have F : CallFix p m c cX7_nandOfInverses 5 s _ wsX7_nandOfInverses RX7 := ⟨B.exec, B.bytes, hml, findClass_of_methodNamed B.named, atoms_spec (ws := wsX7_nandOfInverses) B.pre⟩
  have hr := B.returns
  have hlk := B.notSynchronized
  have hS : va_S A s.heap s.heap [] := va_S.rf
  have hl := lv_entry ([.ref (G.2.2 1 0), .int a0, .int a1]) (n := 5) (Nat.le_of_ble_eq_true rfl)
  rw [lg_entry_eq]
  generalize (lg_sl ([.ref (G.2.2 1 0), .int a0, .int a1]) ++ List.replicate (5 - (lg_sl ([.ref (G.2.2 1 0), .int a0, .int a1])).length) Slot.unset).toArray = ls at hl ⊢
  have hl : lv_has ls 5 [(0, .ref (G.2.2 1 0)), (1, .int a0), (2, .int a1)] := hl
  unfold f_X7_nandOfInverses at h
  refine lv_aload_n F.1 F.2.1 dX7_nandOfInverses_0 rfl (lv_at hl 0 rfl) ?_
  refine lv_iload_n F.1 F.2.1 dX7_nandOfInverses_1 rfl (lv_at hl 1 rfl) ?_
  obtain ⟨r_2, S_3, hq_1, h⟩ := bi_some h
  refine rw_vi F hK hW hS [.int a0] (rest := []) (c_X7_inverseOf l G A a0 S (r_2, S_3) hq_1) (cwV 1 F.2.2.2.2 gX7_nandOfInverses_X7_inverseOf rfl rfl rfl (by decide +kernel) ⟨Nat.le_of_ble_eq_true rfl, Nat.le_of_ble_eq_true rfl⟩) (rw_recv (q0 := 1) hK hW idC_1 rfl rfl) rfl hl.1 rfl (Nat.le_of_ble_eq_true rfl) dX7_nandOfInverses_2 (fun H locs hW hS => ?_)
  refine lv_istore_n (lv' := [(3, .int r_2), (0, .ref (G.2.2 1 0)), (1, .int a0), (2, .int a1)]) F.1 F.2.1 dX7_nandOfInverses_5 rfl hl (by decide) rfl (fun ls hl => ?_)
  refine lv_aload_n F.1 F.2.1 dX7_nandOfInverses_6 rfl (lv_at hl 1 rfl) ?_
  refine lv_iload_n F.1 F.2.1 dX7_nandOfInverses_7 rfl (lv_at hl 3 rfl) ?_
  obtain ⟨r_5, S_6, hq_4, h⟩ := bi_some h
  refine rw_vi F hK hW hS [.int a1] (rest := []) (c_X7_inverseOf l G A a1 S_3 (r_5, S_6) hq_4) (cwV 1 F.2.2.2.2 gX7_nandOfInverses_X7_inverseOf rfl rfl rfl (by decide +kernel) ⟨Nat.le_of_ble_eq_true rfl, Nat.le_of_ble_eq_true rfl⟩) (rw_recv (q0 := 1) hK hW idC_1 rfl rfl) rfl hl.1 rfl (Nat.le_of_ble_eq_true rfl) dX7_nandOfInverses_8 (fun H locs hW hS => ?_)
  refine lv_istore (lv' := [(4, .int r_5), (3, .int r_2), (0, .ref (G.2.2 1 0)), (1, .int a0), (2, .int a1)]) F.1 F.2.1 dX7_nandOfInverses_11 hl (by decide) rfl (fun ls hl => ?_)
  refine lv_aload_n F.1 F.2.1 dX7_nandOfInverses_13 rfl (lv_at hl 2 rfl) ?_
  refine lv_iload_n F.1 F.2.1 dX7_nandOfInverses_14 rfl (lv_at hl 1 rfl) ?_
  refine lv_iload F.1 F.2.1 dX7_nandOfInverses_15 (lv_at hl 0 rfl) ?_
  obtain ⟨r_8, S_9, hq_7, h⟩ := bi_some h
  refine rw_vi F hK hW hS [.int r_2, .int r_5] (rest := []) (c_X7_nandOf l G A r_2 r_5 S_6 (r_8, S_9) hq_7) (cwV 2 F.2.2.2.2 gX7_nandOfInverses_X7_nandOf rfl rfl rfl (by decide +kernel) ⟨Nat.le_of_ble_eq_true rfl, Nat.le_of_ble_eq_true rfl⟩) (rw_recv (q0 := 1) hK hW idC_1 rfl rfl) rfl hl.1 rfl (Nat.le_of_ble_eq_true rfl) dX7_nandOfInverses_17 (fun H locs hW hS => ?_)
  exact rw_ret F hr hlk hK hW hS h dX7_nandOfInverses_20
/-! CellCover$Vertices.exclusiveOf(II)I -/
abbrev rm_X7_exclusiveOf : Room := { frames := 2, cells := 0, slots := 0, locals := 47 }
set_option maxHeartbeats 4000000 in
set_option maxRecDepth 100000 in
theorem c_X7_exclusiveOf (l : Launch) (G : GT) (A : Nat → Prop) (a0 : Int32) (a1 : Int32) (S : St) (out : Int32 × St) (h : f_X7_exclusiveOf a0 a1 S = some out) : Met l yX7_exclusiveOf wsX7_exclusiveOf rm_X7_exclusiveOf (va_Pc [.ref (G.2.2 1 0), .int a0, .int a1] (WD shC idsC G A S)) (QI shC idsC G A out) 0 0 A := by
  refine Met.ofW (cc := cX7_exclusiveOf) (maxL := 6) (ret := (some .int)) (by decide) rfl ?_
  intro p e s m args below meth c s₁ B hml hv
  obtain ⟨rfl, hW, hK⟩ := hv
  have F : CallFix p m c cX7_exclusiveOf 6 s _ wsX7_exclusiveOf RX7 := ⟨B.exec, B.bytes, hml, findClass_of_methodNamed B.named, atoms_spec (ws := wsX7_exclusiveOf) B.pre⟩
  have hr := B.returns
  have hlk := B.notSynchronized
  have hS : va_S A s.heap s.heap [] := va_S.rf
  have hl := lv_entry ([.ref (G.2.2 1 0), .int a0, .int a1]) (n := 6) (Nat.le_of_ble_eq_true rfl)
  rw [lg_entry_eq]
  generalize (lg_sl ([.ref (G.2.2 1 0), .int a0, .int a1]) ++ List.replicate (6 - (lg_sl ([.ref (G.2.2 1 0), .int a0, .int a1])).length) Slot.unset).toArray = ls at hl ⊢
  have hl : lv_has ls 6 [(0, .ref (G.2.2 1 0)), (1, .int a0), (2, .int a1)] := hl
  unfold f_X7_exclusiveOf at h
  refine lv_aload_n F.1 F.2.1 dX7_exclusiveOf_0 rfl (lv_at hl 0 rfl) ?_
  refine lv_iload_n F.1 F.2.1 dX7_exclusiveOf_1 rfl (lv_at hl 1 rfl) ?_
  refine lv_iload_n F.1 F.2.1 dX7_exclusiveOf_2 rfl (lv_at hl 2 rfl) ?_
  obtain ⟨r_2, S_3, hq_1, h⟩ := bi_some h
  refine rw_vi F hK hW hS [.int a0, .int a1] (rest := []) (c_X7_nandOf l G A a0 a1 S (r_2, S_3) hq_1) (cwV 2 F.2.2.2.2 gX7_exclusiveOf_X7_nandOf rfl rfl rfl (by decide +kernel) ⟨Nat.le_of_ble_eq_true rfl, Nat.le_of_ble_eq_true rfl⟩) (rw_recv (q0 := 1) hK hW idC_1 rfl rfl) rfl hl.1 rfl (Nat.le_of_ble_eq_true rfl) dX7_exclusiveOf_3 (fun H locs hW hS => ?_)
  refine lv_istore_n (lv' := [(3, .int r_2), (0, .ref (G.2.2 1 0)), (1, .int a0), (2, .int a1)]) F.1 F.2.1 dX7_exclusiveOf_6 rfl hl (by decide) rfl (fun ls hl => ?_)
  refine lv_aload_n F.1 F.2.1 dX7_exclusiveOf_7 rfl (lv_at hl 1 rfl) ?_
  refine lv_iload_n F.1 F.2.1 dX7_exclusiveOf_8 rfl (lv_at hl 2 rfl) ?_
  refine lv_iload_n F.1 F.2.1 dX7_exclusiveOf_9 rfl (lv_at hl 0 rfl) ?_
  obtain ⟨r_5, S_6, hq_4, h⟩ := bi_some h
  refine rw_vi F hK hW hS [.int a0, .int r_2] (rest := []) (c_X7_nandOf l G A a0 r_2 S_3 (r_5, S_6) hq_4) (cwV 2 F.2.2.2.2 gX7_exclusiveOf_X7_nandOf rfl rfl rfl (by decide +kernel) ⟨Nat.le_of_ble_eq_true rfl, Nat.le_of_ble_eq_true rfl⟩) (rw_recv (q0 := 1) hK hW idC_1 rfl rfl) rfl hl.1 rfl (Nat.le_of_ble_eq_true rfl) dX7_exclusiveOf_10 (fun H locs hW hS => ?_)
  refine lv_istore (lv' := [(4, .int r_5), (3, .int r_2), (0, .ref (G.2.2 1 0)), (1, .int a0), (2, .int a1)]) F.1 F.2.1 dX7_exclusiveOf_13 hl (by decide) rfl (fun ls hl => ?_)
  refine lv_aload_n F.1 F.2.1 dX7_exclusiveOf_15 rfl (lv_at hl 2 rfl) ?_
  refine lv_iload_n F.1 F.2.1 dX7_exclusiveOf_16 rfl (lv_at hl 4 rfl) ?_
  refine lv_iload_n F.1 F.2.1 dX7_exclusiveOf_17 rfl (lv_at hl 1 rfl) ?_
  obtain ⟨r_8, S_9, hq_7, h⟩ := bi_some h
  refine rw_vi F hK hW hS [.int a1, .int r_2] (rest := []) (c_X7_nandOf l G A a1 r_2 S_6 (r_8, S_9) hq_7) (cwV 2 F.2.2.2.2 gX7_exclusiveOf_X7_nandOf rfl rfl rfl (by decide +kernel) ⟨Nat.le_of_ble_eq_true rfl, Nat.le_of_ble_eq_true rfl⟩) (rw_recv (q0 := 1) hK hW idC_1 rfl rfl) rfl hl.1 rfl (Nat.le_of_ble_eq_true rfl) dX7_exclusiveOf_18 (fun H locs hW hS => ?_)
  refine lv_istore (lv' := [(5, .int r_8), (4, .int r_5), (3, .int r_2), (0, .ref (G.2.2 1 0)), (1, .int a0), (2, .int a1)]) F.1 F.2.1 dX7_exclusiveOf_21 hl (by decide) rfl (fun ls hl => ?_)
  refine lv_aload_n F.1 F.2.1 dX7_exclusiveOf_23 rfl (lv_at hl 3 rfl) ?_
  refine lv_iload F.1 F.2.1 dX7_exclusiveOf_24 (lv_at hl 1 rfl) ?_
  refine lv_iload F.1 F.2.1 dX7_exclusiveOf_26 (lv_at hl 0 rfl) ?_
  obtain ⟨r_11, S_12, hq_10, h⟩ := bi_some h
  refine rw_vi F hK hW hS [.int r_5, .int r_8] (rest := []) (c_X7_nandOf l G A r_5 r_8 S_9 (r_11, S_12) hq_10) (cwV 2 F.2.2.2.2 gX7_exclusiveOf_X7_nandOf rfl rfl rfl (by decide +kernel) ⟨Nat.le_of_ble_eq_true rfl, Nat.le_of_ble_eq_true rfl⟩) (rw_recv (q0 := 1) hK hW idC_1 rfl rfl) rfl hl.1 rfl (Nat.le_of_ble_eq_true rfl) dX7_exclusiveOf_28 (fun H locs hW hS => ?_)
  exact rw_ret F hr hlk hK hW hS h dX7_exclusiveOf_31
/-! CellCover$Vertices.pickOf(III)I -/
abbrev rm_X7_pickOf : Room := { frames := 2, cells := 0, slots := 0, locals := 47 }
set_option maxHeartbeats 4000000 in
set_option maxRecDepth 100000 in
theorem c_X7_pickOf (l : Launch) (G : GT) (A : Nat → Prop) (a0 : Int32) (a1 : Int32) (a2 : Int32) (S : St) (out : Int32 × St) (h : f_X7_pickOf a0 a1 a2 S = some out) : Met l yX7_pickOf wsX7_pickOf rm_X7_pickOf (va_Pc [.ref (G.2.2 1 0), .int a0, .int a1, .int a2] (WD shC idsC G A S)) (QI shC idsC G A out) 0 0 A := by
  refine Met.ofW (cc := cX7_pickOf) (maxL := 7) (ret := (some .int)) (by decide) rfl ?_
  intro p e s m args below meth c s₁ B hml hv
  obtain ⟨rfl, hW, hK⟩ := hv
  have F : CallFix p m c cX7_pickOf 7 s _ wsX7_pickOf RX7 := ⟨B.exec, B.bytes, hml, findClass_of_methodNamed B.named, atoms_spec (ws := wsX7_pickOf) B.pre⟩
  have hr := B.returns
  have hlk := B.notSynchronized
  have hS : va_S A s.heap s.heap [] := va_S.rf
  have hl := lv_entry ([.ref (G.2.2 1 0), .int a0, .int a1, .int a2]) (n := 7) (Nat.le_of_ble_eq_true rfl)
  rw [lg_entry_eq]
  generalize (lg_sl ([.ref (G.2.2 1 0), .int a0, .int a1, .int a2]) ++ List.replicate (7 - (lg_sl ([.ref (G.2.2 1 0), .int a0, .int a1, .int a2])).length) Slot.unset).toArray = ls at hl ⊢
  have hl : lv_has ls 7 [(0, .ref (G.2.2 1 0)), (1, .int a0), (2, .int a1), (3, .int a2)] := hl
  unfold f_X7_pickOf at h
  refine lv_aload_n F.1 F.2.1 dX7_pickOf_0 rfl (lv_at hl 0 rfl) ?_
  refine lv_iload_n F.1 F.2.1 dX7_pickOf_1 rfl (lv_at hl 1 rfl) ?_
  refine lv_iload_n F.1 F.2.1 dX7_pickOf_2 rfl (lv_at hl 2 rfl) ?_
  obtain ⟨r_2, S_3, hq_1, h⟩ := bi_some h
  refine rw_vi F hK hW hS [.int a0, .int a1] (rest := []) (c_X7_nandOf l G A a0 a1 S (r_2, S_3) hq_1) (cwV 2 F.2.2.2.2 gX7_pickOf_X7_nandOf rfl rfl rfl (by decide +kernel) ⟨Nat.le_of_ble_eq_true rfl, Nat.le_of_ble_eq_true rfl⟩) (rw_recv (q0 := 1) hK hW idC_1 rfl rfl) rfl hl.1 rfl (Nat.le_of_ble_eq_true rfl) dX7_pickOf_3 (fun H locs hW hS => ?_)
  refine lv_istore (lv' := [(4, .int r_2), (0, .ref (G.2.2 1 0)), (1, .int a0), (2, .int a1), (3, .int a2)]) F.1 F.2.1 dX7_pickOf_6 hl (by decide) rfl (fun ls hl => ?_)
  refine lv_aload_n F.1 F.2.1 dX7_pickOf_8 rfl (lv_at hl 1 rfl) ?_
  refine lv_iload_n F.1 F.2.1 dX7_pickOf_9 rfl (lv_at hl 2 rfl) ?_
  obtain ⟨r_5, S_6, hq_4, h⟩ := bi_some h
  refine rw_vi F hK hW hS [.int a0] (rest := []) (c_X7_inverseOf l G A a0 S_3 (r_5, S_6) hq_4) (cwV 1 F.2.2.2.2 gX7_pickOf_X7_inverseOf rfl rfl rfl (by decide +kernel) ⟨Nat.le_of_ble_eq_true rfl, Nat.le_of_ble_eq_true rfl⟩) (rw_recv (q0 := 1) hK hW idC_1 rfl rfl) rfl hl.1 rfl (Nat.le_of_ble_eq_true rfl) dX7_pickOf_10 (fun H locs hW hS => ?_)
  refine lv_istore (lv' := [(5, .int r_5), (4, .int r_2), (0, .ref (G.2.2 1 0)), (1, .int a0), (2, .int a1), (3, .int a2)]) F.1 F.2.1 dX7_pickOf_13 hl (by decide) rfl (fun ls hl => ?_)
  refine lv_aload_n F.1 F.2.1 dX7_pickOf_15 rfl (lv_at hl 2 rfl) ?_
  refine lv_iload F.1 F.2.1 dX7_pickOf_16 (lv_at hl 0 rfl) ?_
  refine lv_iload_n F.1 F.2.1 dX7_pickOf_18 rfl (lv_at hl 5 rfl) ?_
  obtain ⟨r_8, S_9, hq_7, h⟩ := bi_some h
  refine rw_vi F hK hW hS [.int r_5, .int a2] (rest := []) (c_X7_nandOf l G A r_5 a2 S_6 (r_8, S_9) hq_7) (cwV 2 F.2.2.2.2 gX7_pickOf_X7_nandOf rfl rfl rfl (by decide +kernel) ⟨Nat.le_of_ble_eq_true rfl, Nat.le_of_ble_eq_true rfl⟩) (rw_recv (q0 := 1) hK hW idC_1 rfl rfl) rfl hl.1 rfl (Nat.le_of_ble_eq_true rfl) dX7_pickOf_19 (fun H locs hW hS => ?_)
  refine lv_istore (lv' := [(6, .int r_8), (5, .int r_5), (4, .int r_2), (0, .ref (G.2.2 1 0)), (1, .int a0), (2, .int a1), (3, .int a2)]) F.1 F.2.1 dX7_pickOf_22 hl (by decide) rfl (fun ls hl => ?_)
  refine lv_aload_n F.1 F.2.1 dX7_pickOf_24 rfl (lv_at hl 3 rfl) ?_
  refine lv_iload F.1 F.2.1 dX7_pickOf_25 (lv_at hl 2 rfl) ?_
  refine lv_iload F.1 F.2.1 dX7_pickOf_27 (lv_at hl 0 rfl) ?_
  obtain ⟨r_11, S_12, hq_10, h⟩ := bi_some h
  refine rw_vi F hK hW hS [.int r_2, .int r_8] (rest := []) (c_X7_nandOf l G A r_2 r_8 S_9 (r_11, S_12) hq_10) (cwV 2 F.2.2.2.2 gX7_pickOf_X7_nandOf rfl rfl rfl (by decide +kernel) ⟨Nat.le_of_ble_eq_true rfl, Nat.le_of_ble_eq_true rfl⟩) (rw_recv (q0 := 1) hK hW idC_1 rfl rfl) rfl hl.1 rfl (Nat.le_of_ble_eq_true rfl) dX7_pickOf_29 (fun H locs hW hS => ?_)
  exact rw_ret F hr hlk hK hW hS h dX7_pickOf_32
/-! CellCover$Vertices.addGate(IIII)I -/
abbrev rm_X7_addGate : Room := { frames := 3, cells := 0, slots := 0, locals := 73 }
set_option maxHeartbeats 4000000 in
set_option maxRecDepth 100000 in
theorem c_X7_addGate (l : Launch) (G : GT) (A : Nat → Prop) (a0 : Int32) (a1 : Int32) (a2 : Int32) (a3 : Int32) (S : St) (out : Int32 × St) (h : f_X7_addGate a0 a1 a2 a3 S = some out) : Met l yX7_addGate wsX7_addGate rm_X7_addGate (va_Pc [.ref (G.2.2 1 0), .int a0, .int a1, .int a2, .int a3] (WD shC idsC G A S)) (QI shC idsC G A out) 0 0 A := by
  refine Met.ofW (cc := cX7_addGate) (maxL := 5) (ret := (some .int)) (by decide) rfl ?_
  intro p e s m args below meth c s₁ B hml hv
  obtain ⟨rfl, hW, hK⟩ := hv
  have F : CallFix p m c cX7_addGate 5 s _ wsX7_addGate RX7 := ⟨B.exec, B.bytes, hml, findClass_of_methodNamed B.named, atoms_spec (ws := wsX7_addGate) B.pre⟩
  have hr := B.returns
  have hlk := B.notSynchronized
  have hS : va_S A s.heap s.heap [] := va_S.rf
  have hl := lv_entry ([.ref (G.2.2 1 0), .int a0, .int a1, .int a2, .int a3]) (n := 5) (Nat.le_of_ble_eq_true rfl)
  rw [lg_entry_eq]
  generalize (lg_sl ([.ref (G.2.2 1 0), .int a0, .int a1, .int a2, .int a3]) ++ List.replicate (5 - (lg_sl ([.ref (G.2.2 1 0), .int a0, .int a1, .int a2, .int a3])).length) Slot.unset).toArray = ls at hl ⊢
  have hl : lv_has ls 5 [(0, .ref (G.2.2 1 0)), (1, .int a0), (2, .int a1), (3, .int a2), (4, .int a3)] := hl
  unfold f_X7_addGate at h
  refine lv_iload_n F.1 F.2.1 dX7_addGate_0 rfl (lv_at hl 1 rfl) ?_
  by_cases c_1 : a0 = 0
  · have h := (if_pos c_1).symm.trans h
    refine lv_tableIn (off := 39) (tgt := 40) F.1 F.2.1 dX7_addGate_1 (by rw [c_1]; decide) (by rw [c_1]; decide) (by rw [c_1]; rfl) (by decide) ?_
    refine lv_aload_n F.1 F.2.1 dX7_addGate_40 rfl (lv_at hl 0 rfl) ?_
    refine lv_iload_n F.1 F.2.1 dX7_addGate_41 rfl (lv_at hl 2 rfl) ?_
    obtain ⟨r_3, S_4, hq_2, h⟩ := bi_some h
    refine rw_vi F hK hW hS [.int a1] (rest := []) (c_X7_inverseOf l G A a1 S (r_3, S_4) hq_2) (cwV 1 F.2.2.2.2 gX7_addGate_X7_inverseOf rfl rfl rfl (by decide +kernel) ⟨Nat.le_of_ble_eq_true rfl, Nat.le_of_ble_eq_true rfl⟩) (rw_recv (q0 := 1) hK hW idC_1 rfl rfl) rfl hl.1 rfl (Nat.le_of_ble_eq_true rfl) dX7_addGate_42 (fun H locs hW hS => ?_)
    exact rw_ret F hr hlk hK hW hS h dX7_addGate_45
  · have h := (if_neg c_1).symm.trans h
    by_cases c_5 : a0 = 1
    · have h := (if_pos c_5).symm.trans h
      refine lv_tableIn (off := 45) (tgt := 46) F.1 F.2.1 dX7_addGate_1 (by rw [c_5]; decide) (by rw [c_5]; decide) (by rw [c_5]; rfl) (by decide) ?_
      refine lv_aload_n F.1 F.2.1 dX7_addGate_46 rfl (lv_at hl 0 rfl) ?_
      refine lv_aload_n F.1 F.2.1 dX7_addGate_47 rfl (lv_at hl 0 rfl) ?_
      refine lv_iload_n F.1 F.2.1 dX7_addGate_48 rfl (lv_at hl 2 rfl) ?_
      refine lv_iload_n F.1 F.2.1 dX7_addGate_49 rfl (lv_at hl 3 rfl) ?_
      obtain ⟨r_7, S_8, hq_6, h⟩ := bi_some h
      refine rw_vi F hK hW hS [.int a1, .int a2] (rest := [.ref (G.2.2 1 0)]) (c_X7_nandOf l G A a1 a2 S (r_7, S_8) hq_6) (cwV 2 F.2.2.2.2 gX7_addGate_X7_nandOf rfl rfl rfl (by decide +kernel) ⟨Nat.le_of_ble_eq_true rfl, Nat.le_of_ble_eq_true rfl⟩) (rw_recv (q0 := 1) hK hW idC_1 rfl rfl) rfl hl.1 rfl (Nat.le_of_ble_eq_true rfl) dX7_addGate_50 (fun H locs hW hS => ?_)
      obtain ⟨r_10, S_11, hq_9, h⟩ := bi_some h
      refine rw_vi F hK hW hS [.int r_7] (rest := []) (c_X7_inverseOf l G A r_7 S_8 (r_10, S_11) hq_9) (cwV 1 F.2.2.2.2 gX7_addGate_X7_inverseOf rfl rfl rfl (by decide +kernel) ⟨Nat.le_of_ble_eq_true rfl, Nat.le_of_ble_eq_true rfl⟩) (rw_recv (q0 := 1) hK hW idC_1 rfl rfl) rfl hl.1 rfl (Nat.le_of_ble_eq_true rfl) dX7_addGate_53 (fun H locs hW hS => ?_)
      exact rw_ret F hr hlk hK hW hS h dX7_addGate_56
    · have h := (if_neg c_5).symm.trans h
      by_cases c_12 : a0 = 2
      · have h := (if_pos c_12).symm.trans h
        refine lv_tableIn (off := 56) (tgt := 57) F.1 F.2.1 dX7_addGate_1 (by rw [c_12]; decide) (by rw [c_12]; decide) (by rw [c_12]; rfl) (by decide) ?_
        refine lv_aload_n F.1 F.2.1 dX7_addGate_57 rfl (lv_at hl 0 rfl) ?_
        refine lv_iload_n F.1 F.2.1 dX7_addGate_58 rfl (lv_at hl 2 rfl) ?_
        refine lv_iload_n F.1 F.2.1 dX7_addGate_59 rfl (lv_at hl 3 rfl) ?_
        obtain ⟨r_14, S_15, hq_13, h⟩ := bi_some h
        refine rw_vi F hK hW hS [.int a1, .int a2] (rest := []) (c_X7_nandOfInverses l G A a1 a2 S (r_14, S_15) hq_13) (cwV 2 F.2.2.2.2 gX7_addGate_X7_nandOfInverses rfl rfl rfl (by decide +kernel) ⟨Nat.le_of_ble_eq_true rfl, Nat.le_of_ble_eq_true rfl⟩) (rw_recv (q0 := 1) hK hW idC_1 rfl rfl) rfl hl.1 rfl (Nat.le_of_ble_eq_true rfl) dX7_addGate_60 (fun H locs hW hS => ?_)
        exact rw_ret F hr hlk hK hW hS h dX7_addGate_63
      · have h := (if_neg c_12).symm.trans h
        by_cases c_16 : a0 = 3
        · have h := (if_pos c_16).symm.trans h
          refine lv_tableIn (off := 63) (tgt := 64) F.1 F.2.1 dX7_addGate_1 (by rw [c_16]; decide) (by rw [c_16]; decide) (by rw [c_16]; rfl) (by decide) ?_
          refine lv_aload_n F.1 F.2.1 dX7_addGate_64 rfl (lv_at hl 0 rfl) ?_
          refine lv_iload_n F.1 F.2.1 dX7_addGate_65 rfl (lv_at hl 2 rfl) ?_
          refine lv_iload_n F.1 F.2.1 dX7_addGate_66 rfl (lv_at hl 3 rfl) ?_
          obtain ⟨r_18, S_19, hq_17, h⟩ := bi_some h
          refine rw_vi F hK hW hS [.int a1, .int a2] (rest := []) (c_X7_exclusiveOf l G A a1 a2 S (r_18, S_19) hq_17) (cwV 2 F.2.2.2.2 gX7_addGate_X7_exclusiveOf rfl rfl rfl (by decide +kernel) ⟨Nat.le_of_ble_eq_true rfl, Nat.le_of_ble_eq_true rfl⟩) (rw_recv (q0 := 1) hK hW idC_1 rfl rfl) rfl hl.1 rfl (Nat.le_of_ble_eq_true rfl) dX7_addGate_67 (fun H locs hW hS => ?_)
          exact rw_ret F hr hlk hK hW hS h dX7_addGate_70
        · have h := (if_neg c_16).symm.trans h
          by_cases c_20 : a0 = 4
          · have h := (if_pos c_20).symm.trans h
            refine lv_tableIn (off := 70) (tgt := 71) F.1 F.2.1 dX7_addGate_1 (by rw [c_20]; decide) (by rw [c_20]; decide) (by rw [c_20]; rfl) (by decide) ?_
            refine lv_aload_n F.1 F.2.1 dX7_addGate_71 rfl (lv_at hl 0 rfl) ?_
            refine lv_iload_n F.1 F.2.1 dX7_addGate_72 rfl (lv_at hl 2 rfl) ?_
            refine lv_iload_n F.1 F.2.1 dX7_addGate_73 rfl (lv_at hl 3 rfl) ?_
            obtain ⟨r_22, S_23, hq_21, h⟩ := bi_some h
            refine rw_vi F hK hW hS [.int a1, .int a2] (rest := []) (c_X7_nandOf l G A a1 a2 S (r_22, S_23) hq_21) (cwV 2 F.2.2.2.2 gX7_addGate_X7_nandOf rfl rfl rfl (by decide +kernel) ⟨Nat.le_of_ble_eq_true rfl, Nat.le_of_ble_eq_true rfl⟩) (rw_recv (q0 := 1) hK hW idC_1 rfl rfl) rfl hl.1 rfl (Nat.le_of_ble_eq_true rfl) dX7_addGate_74 (fun H locs hW hS => ?_)
            exact rw_ret F hr hlk hK hW hS h dX7_addGate_77
          · have h := (if_neg c_20).symm.trans h
            by_cases c_24 : a0 = 5
            · have h := (if_pos c_24).symm.trans h
              refine lv_tableIn (off := 77) (tgt := 78) F.1 F.2.1 dX7_addGate_1 (by rw [c_24]; decide) (by rw [c_24]; decide) (by rw [c_24]; rfl) (by decide) ?_
              refine lv_aload_n F.1 F.2.1 dX7_addGate_78 rfl (lv_at hl 0 rfl) ?_
              refine lv_aload_n F.1 F.2.1 dX7_addGate_79 rfl (lv_at hl 0 rfl) ?_
              refine lv_iload_n F.1 F.2.1 dX7_addGate_80 rfl (lv_at hl 2 rfl) ?_
              refine lv_iload_n F.1 F.2.1 dX7_addGate_81 rfl (lv_at hl 3 rfl) ?_
              obtain ⟨r_26, S_27, hq_25, h⟩ := bi_some h
              refine rw_vi F hK hW hS [.int a1, .int a2] (rest := [.ref (G.2.2 1 0)]) (c_X7_nandOfInverses l G A a1 a2 S (r_26, S_27) hq_25) (cwV 2 F.2.2.2.2 gX7_addGate_X7_nandOfInverses rfl rfl rfl (by decide +kernel) ⟨Nat.le_of_ble_eq_true rfl, Nat.le_of_ble_eq_true rfl⟩) (rw_recv (q0 := 1) hK hW idC_1 rfl rfl) rfl hl.1 rfl (Nat.le_of_ble_eq_true rfl) dX7_addGate_82 (fun H locs hW hS => ?_)
              obtain ⟨r_29, S_30, hq_28, h⟩ := bi_some h
              refine rw_vi F hK hW hS [.int r_26] (rest := []) (c_X7_inverseOf l G A r_26 S_27 (r_29, S_30) hq_28) (cwV 1 F.2.2.2.2 gX7_addGate_X7_inverseOf rfl rfl rfl (by decide +kernel) ⟨Nat.le_of_ble_eq_true rfl, Nat.le_of_ble_eq_true rfl⟩) (rw_recv (q0 := 1) hK hW idC_1 rfl rfl) rfl hl.1 rfl (Nat.le_of_ble_eq_true rfl) dX7_addGate_85 (fun H locs hW hS => ?_)
              exact rw_ret F hr hlk hK hW hS h dX7_addGate_88
            · have h := (if_neg c_24).symm.trans h
              have nc_1 := lv_neT c_1 (a := 0) (by decide)
              have nc_5 := lv_neT c_5 (a := 1) (by decide)
              have nc_12 := lv_neT c_12 (a := 2) (by decide)
              have nc_16 := lv_neT c_16 (a := 3) (by decide)
              have nc_20 := lv_neT c_20 (a := 4) (by decide)
              have nc_24 := lv_neT c_24 (a := 5) (by decide)
              refine lv_tableOut (tgt := 89) F.1 F.2.1 dX7_addGate_1 (by omega) (by decide) ?_
              refine lv_aload_n F.1 F.2.1 dX7_addGate_89 rfl (lv_at hl 0 rfl) ?_
              refine lv_iload_n F.1 F.2.1 dX7_addGate_90 rfl (lv_at hl 2 rfl) ?_
              refine lv_iload_n F.1 F.2.1 dX7_addGate_91 rfl (lv_at hl 3 rfl) ?_
              refine lv_iload F.1 F.2.1 dX7_addGate_92 (lv_at hl 4 rfl) ?_
              obtain ⟨r_32, S_33, hq_31, h⟩ := bi_some h
              refine rw_vi F hK hW hS [.int a1, .int a2, .int a3] (rest := []) (c_X7_pickOf l G A a1 a2 a3 S (r_32, S_33) hq_31) (cwV 3 F.2.2.2.2 gX7_addGate_X7_pickOf rfl rfl rfl (by decide +kernel) ⟨Nat.le_of_ble_eq_true rfl, Nat.le_of_ble_eq_true rfl⟩) (rw_recv (q0 := 1) hK hW idC_1 rfl rfl) rfl hl.1 rfl (Nat.le_of_ble_eq_true rfl) dX7_addGate_94 (fun H locs hW hS => ?_)
              exact rw_ret F hr hlk hK hW hS h dX7_addGate_97
/-! CellCover$Net.addGate(IIIIII)I -/
abbrev rm_X5_addGate : Room := { frames := 1, cells := 0, slots := 0, locals := 24 }
theorem in_X5_addGate_X5 : ∀ w ∈ wsX50, w ∈ wsX5_addGate := by decide +kernel
theorem lk_X5_addGate_15 : Cond.fieldLink RX5 15 "CellCover$Net" "partA" "[I" ∈ wsX5_addGate := by decide +kernel
theorem lk_X5_addGate_18 : Cond.fieldLink RX5 18 "CellCover$Net" "partB" "[I" ∈ wsX5_addGate := by decide +kernel
theorem lk_X5_addGate_21 : Cond.fieldLink RX5 21 "CellCover$Net" "partC" "[I" ∈ wsX5_addGate := by decide +kernel
set_option maxHeartbeats 4000000 in
set_option maxRecDepth 100000 in
theorem c_X5_addGate (l : Launch) (G : GT) (A : Nat → Prop) (a0 : Int32) (a1 : Int32) (a2 : Int32) (a3 : Int32) (a4 : Int32) (a5 : Int32) (S : St) (out : Int32 × St) (h : f_X5_addGate a0 a1 a2 a3 a4 a5 S = some out) : Met l yX5_addGate wsX5_addGate rm_X5_addGate (va_Pc [.ref (G.2.2 2 0), .int a0, .int a1, .int a2, .int a3, .int a4, .int a5] (WD shC idsC G A S)) (QI shC idsC G A out) 0 0 A := by
  refine Met.ofW (cc := cX5_addGate) (maxL := 8) (ret := (some .int)) (by decide) rfl ?_
  intro p e s m args below meth c s₁ B hml hv
  obtain ⟨rfl, hW, hK⟩ := hv
  have F : CallFix p m c cX5_addGate 8 s _ wsX5_addGate RX5 := ⟨B.exec, B.bytes, hml, findClass_of_methodNamed B.named, atoms_spec (ws := wsX5_addGate) B.pre⟩
  have hr := B.returns
  have hlk := B.notSynchronized
  have hS : va_S A s.heap s.heap [] := va_S.rf
  have hl := lv_entry ([.ref (G.2.2 2 0), .int a0, .int a1, .int a2, .int a3, .int a4, .int a5]) (n := 8) (Nat.le_of_ble_eq_true rfl)
  rw [lg_entry_eq]
  generalize (lg_sl ([.ref (G.2.2 2 0), .int a0, .int a1, .int a2, .int a3, .int a4, .int a5]) ++ List.replicate (8 - (lg_sl ([.ref (G.2.2 2 0), .int a0, .int a1, .int a2, .int a3, .int a4, .int a5])).length) Slot.unset).toArray = ls at hl ⊢
  have hl : lv_has ls 8 [(0, .ref (G.2.2 2 0)), (1, .int a0), (2, .int a1), (3, .int a2), (4, .int a3), (5, .int a4), (6, .int a5)] := hl
  unfold f_X5_addGate at h
  refine lv_aload_n F.1 F.2.1 dX5_addGate_0 rfl (lv_at hl 0 rfl) ?_
  refine lv_iload_n F.1 F.2.1 dX5_addGate_1 rfl (lv_at hl 1 rfl) ?_
  refine lv_iload F.1 F.2.1 dX5_addGate_2 (lv_at hl 5 rfl) ?_
  refine lv_iload F.1 F.2.1 dX5_addGate_4 (lv_at hl 6 rfl) ?_
  obtain ⟨r_2, S_3, hq_1, h⟩ := bi_some h
  refine rw_vi F hK hW hS [.int a0, .int a4, .int a5] (rest := []) (c_X5_addNode l G A a0 a4 a5 S (r_2, S_3) hq_1) (cwV 3 F.2.2.2.2 gX5_addGate_X5_addNode rfl rfl rfl (by decide +kernel) ⟨Nat.le_of_ble_eq_true rfl, Nat.le_of_ble_eq_true rfl⟩) (rw_recv (q0 := 2) hK hW idC_2 rfl rfl) rfl hl.1 rfl (Nat.le_of_ble_eq_true rfl) dX5_addGate_6 (fun H locs hW hS => ?_)
  refine lv_istore (lv' := [(7, .int r_2), (0, .ref (G.2.2 2 0)), (1, .int a0), (2, .int a1), (3, .int a2), (4, .int a3), (5, .int a4), (6, .int a5)]) F.1 F.2.1 dX5_addGate_9 hl (by decide) rfl (fun ls hl => ?_)
  refine lv_aload_n F.1 F.2.1 dX5_addGate_11 rfl (lv_at hl 1 rfl) ?_
  refine rw_get (q0 := 2) F hK hW idC_2 rfl rfl in_X5_addGate_X5 1 (by decide) lk_X5_addGate_15 rfl dX5_addGate_12 ?_
  refine lv_iload F.1 F.2.1 dX5_addGate_15 (lv_at hl 0 rfl) ?_
  refine lv_iload_n F.1 F.2.1 dX5_addGate_17 rfl (lv_at hl 3 rfl) ?_
  obtain ⟨b_4, h⟩ := gd_some h
  refine rw_iast ndC (q0 := 36) F hK hW hS idC_16 (fun _ => rfl) (ix_in b_4) dX5_addGate_18 (fun H locs S_5 eS_5 hW hS => ?_)
  have h := lt_n eS_5 h
  refine lv_aload_n F.1 F.2.1 dX5_addGate_19 rfl (lv_at hl 1 rfl) ?_
  refine rw_get (q0 := 2) F hK hW idC_2 rfl rfl in_X5_addGate_X5 2 (by decide) lk_X5_addGate_18 rfl dX5_addGate_20 ?_
  refine lv_iload F.1 F.2.1 dX5_addGate_23 (lv_at hl 0 rfl) ?_
  refine lv_iload_n F.1 F.2.1 dX5_addGate_25 rfl (lv_at hl 4 rfl) ?_
  obtain ⟨b_6, h⟩ := gd_some h
  refine rw_iast ndC (q0 := 37) F hK hW hS idC_17 (fun _ => rfl) (ix_in b_6) dX5_addGate_26 (fun H locs S_7 eS_7 hW hS => ?_)
  have h := lt_n eS_7 h
  refine lv_aload_n F.1 F.2.1 dX5_addGate_27 rfl (lv_at hl 1 rfl) ?_
  refine rw_get (q0 := 2) F hK hW idC_2 rfl rfl in_X5_addGate_X5 3 (by decide) lk_X5_addGate_21 rfl dX5_addGate_28 ?_
  refine lv_iload F.1 F.2.1 dX5_addGate_31 (lv_at hl 0 rfl) ?_
  refine lv_iload F.1 F.2.1 dX5_addGate_33 (lv_at hl 5 rfl) ?_
  obtain ⟨b_8, h⟩ := gd_some h
  refine rw_iast ndC (q0 := 38) F hK hW hS idC_18 (fun _ => rfl) (ix_in b_8) dX5_addGate_35 (fun H locs S_9 eS_9 hW hS => ?_)
  have h := lt_n eS_9 h
  refine lv_iload F.1 F.2.1 dX5_addGate_36 (lv_at hl 0 rfl) ?_
  exact rw_ret F hr hlk hK hW hS h dX5_addGate_38
/-! CellCover.gate(IIII)I -/
abbrev rm_X8_gate : Room := { frames := 4, cells := 0, slots := 0, locals := 97 }
theorem in_X8_gate_X8 : ∀ w ∈ wsX80, w ∈ wsX8_gate := by decide +kernel
theorem in_X8_gate_X5 : ∀ w ∈ wsX50, w ∈ wsX8_gate := by decide +kernel
theorem in_X8_gate_X7 : ∀ w ∈ wsX70, w ∈ wsX8_gate := by decide +kernel
theorem lk_X8_gate_19 : Cond.fieldLink RX8 19 "CellCover" "net" "LCellCover$Net;" ∈ wsX8_gate := by decide +kernel
theorem lk_X8_gate_69 : Cond.fieldLink RX8 69 "CellCover$Net" "nodes" "I" ∈ wsX8_gate := by decide +kernel
theorem lk_X8_gate_12 : Cond.fieldLink RX8 12 "CellCover" "vertices" "LCellCover$Vertices;" ∈ wsX8_gate := by decide +kernel
theorem lk_X8_gate_73 : Cond.fieldLink RX8 73 "CellCover$Vertices" "many" "I" ∈ wsX8_gate := by decide +kernel
theorem lk_X8_gate_92 : Cond.fieldLink RX8 92 "CellCover$Net" "vertexAt" "[I" ∈ wsX8_gate := by decide +kernel
set_option maxHeartbeats 4000000 in
set_option maxRecDepth 100000 in
theorem w_X8_gate_21 {p : Program} {l : Launch} {e : Env} {s : State} {m : MethodId} {args : Array Value} {below : List Frame} {meth : Method} {c : Code} {G : GT} {A : Nat → Prop} (F : CallFix p m c cX8_gate 9 s args wsX8_gate RX8) (hr : meth.sig.returnType = (some .int)) (hlk : meth.locks = false) (hK : va_K G.1 vwCl (tyl G) s) (out : Int32 × St) : ∀ (S : St) (H : Heap) (locs : List Loc) (ls : Array Slot), Wd shC idsC G A S H → va_S A s.heap H locs → lv_has ls 9 [] → j_X8_gate_21 S = some out → W p l e rm_X8_gate s m args below meth c H locs 0 0 (MQ below (QI shC idsC G A out) args s 0 0 A) (F0 m 21 ls []) := by
  intro S H locs ls hW hS hl h
  unfold j_X8_gate_21 at h
  refine lv_iconst (v := -1) F.1 F.2.1 dX8_gate_21 (by decide) ?_
  exact rw_ret F hr hlk hK hW hS h dX8_gate_22
set_option maxHeartbeats 4000000 in
set_option maxRecDepth 100000 in
theorem w_X8_gate_96 {p : Program} {l : Launch} {e : Env} {s : State} {m : MethodId} {args : Array Value} {below : List Frame} {meth : Method} {c : Code} {G : GT} {A : Nat → Prop} (F : CallFix p m c cX8_gate 9 s args wsX8_gate RX8) (hr : meth.sig.returnType = (some .int)) (hlk : meth.locks = false) (hK : va_K G.1 vwCl (tyl G) s) (out : Int32 × St) : ∀ (S : St) (x1 : Int32) (x2 : Int32) (x5 : Int32) (y0 : Int32) (H : Heap) (locs : List Loc) (ls : Array Slot), Wd shC idsC G A S H → va_S A s.heap H locs → lv_has ls 9 [(0, .ref (G.2.2 0 0)), (1, .int x1), (2, .int x2), (5, .int x5)] → j_X8_gate_96 S x1 x2 x5 y0 = some out → W p l e rm_X8_gate s m args below meth c H locs 0 0 (MQ below (QI shC idsC G A out) args s 0 0 A) (F0 m 96 ls [.int y0]) := by
  intro S x1 x2 x5 y0 H locs ls hW hS hl h
  unfold j_X8_gate_96 at h
  refine lv_istore (lv' := [(6, .int y0), (0, .ref (G.2.2 0 0)), (1, .int x1), (2, .int x2), (5, .int x5)]) F.1 F.2.1 dX8_gate_96 hl (by decide) rfl (fun ls hl => ?_)
  refine lv_aload_n F.1 F.2.1 dX8_gate_98 rfl (lv_at hl 1 rfl) ?_
  refine rw_get (q0 := 0) F hK hW idC_0 rfl rfl in_X8_gate_X8 0 (by decide) lk_X8_gate_12 rfl dX8_gate_99 ?_
  refine rw_get (q0 := 1) F hK hW idC_1 rfl rfl in_X8_gate_X7 6 (by decide) lk_X8_gate_73 rfl dX8_gate_102 ?_
  refine lv_topi (fun v_12 ev_12 => ?_)
  have h := lt_n ev_12 h
  refine lv_istore (lv' := [(7, .int v_12), (6, .int y0), (0, .ref (G.2.2 0 0)), (1, .int x1), (2, .int x2), (5, .int x5)]) F.1 F.2.1 dX8_gate_105 hl (by decide) rfl (fun ls hl => ?_)
  refine lv_aload_n F.1 F.2.1 dX8_gate_107 rfl (lv_at hl 2 rfl) ?_
  refine rw_get (q0 := 0) F hK hW idC_0 rfl rfl in_X8_gate_X8 0 (by decide) lk_X8_gate_12 rfl dX8_gate_108 ?_
  refine lv_iload_n F.1 F.2.1 dX8_gate_111 rfl (lv_at hl 3 rfl) ?_
  refine lv_aload_n F.1 F.2.1 dX8_gate_112 rfl (lv_at hl 2 rfl) ?_
  refine rw_get (q0 := 0) F hK hW idC_0 rfl rfl in_X8_gate_X8 1 (by decide) lk_X8_gate_19 rfl dX8_gate_113 ?_
  refine rw_get (q0 := 2) F hK hW idC_2 rfl rfl in_X8_gate_X5 7 (by decide) lk_X8_gate_92 rfl dX8_gate_116 ?_
  refine lv_iload_n F.1 F.2.1 dX8_gate_119 rfl (lv_at hl 4 rfl) ?_
  obtain ⟨b_13, h⟩ := gd_some h
  refine rw_iald (q0 := 42) F hK hW idC_22 (fun _ => rfl) (ix_in b_13) dX8_gate_120 ?_
  refine lv_topi (fun v_14 ev_14 => ?_)
  have h := lt_n ev_14 h
  refine lv_aload_n F.1 F.2.1 dX8_gate_121 rfl (lv_at hl 2 rfl) ?_
  refine rw_get (q0 := 0) F hK hW idC_0 rfl rfl in_X8_gate_X8 1 (by decide) lk_X8_gate_19 rfl dX8_gate_122 ?_
  refine rw_get (q0 := 2) F hK hW idC_2 rfl rfl in_X8_gate_X5 7 (by decide) lk_X8_gate_92 rfl dX8_gate_125 ?_
  refine lv_iload F.1 F.2.1 dX8_gate_128 (lv_at hl 5 rfl) ?_
  obtain ⟨b_15, h⟩ := gd_some h
  refine rw_iald (q0 := 42) F hK hW idC_22 (fun _ => rfl) (ix_in b_15) dX8_gate_130 ?_
  refine lv_topi (fun v_16 ev_16 => ?_)
  have h := lt_n ev_16 h
  refine lv_aload_n F.1 F.2.1 dX8_gate_131 rfl (lv_at hl 2 rfl) ?_
  refine rw_get (q0 := 0) F hK hW idC_0 rfl rfl in_X8_gate_X8 1 (by decide) lk_X8_gate_19 rfl dX8_gate_132 ?_
  refine rw_get (q0 := 2) F hK hW idC_2 rfl rfl in_X8_gate_X5 7 (by decide) lk_X8_gate_92 rfl dX8_gate_135 ?_
  refine lv_iload F.1 F.2.1 dX8_gate_138 (lv_at hl 1 rfl) ?_
  obtain ⟨b_17, h⟩ := gd_some h
  refine rw_iald (q0 := 42) F hK hW idC_22 (fun _ => rfl) (ix_in b_17) dX8_gate_140 ?_
  refine lv_topi (fun v_18 ev_18 => ?_)
  have h := lt_n ev_18 h
  obtain ⟨r_20, S_21, hq_19, h⟩ := bi_some h
  refine rw_vi F hK hW hS [.int x1, .int v_14, .int v_16, .int v_18] (rest := []) (c_X7_addGate l G A x1 v_14 v_16 v_18 S (r_20, S_21) hq_19) (cwV 4 F.2.2.2.2 gX8_gate_X7_addGate rfl rfl rfl (by decide +kernel) ⟨Nat.le_of_ble_eq_true rfl, Nat.le_of_ble_eq_true rfl⟩) (rw_recv (q0 := 1) hK hW idC_1 rfl rfl) rfl hl.1 rfl (Nat.le_of_ble_eq_true rfl) dX8_gate_141 (fun H locs hW hS => ?_)
  refine lv_istore (lv' := [(8, .int r_20), (7, .int v_12), (6, .int y0), (0, .ref (G.2.2 0 0)), (1, .int x1), (2, .int x2), (5, .int x5)]) F.1 F.2.1 dX8_gate_144 hl (by decide) rfl (fun ls hl => ?_)
  refine lv_aload_n F.1 F.2.1 dX8_gate_146 rfl (lv_at hl 3 rfl) ?_
  refine lv_aload_n F.1 F.2.1 dX8_gate_147 rfl (lv_at hl 3 rfl) ?_
  refine rw_get (q0 := 0) F hK hW idC_0 rfl rfl in_X8_gate_X8 1 (by decide) lk_X8_gate_19 rfl dX8_gate_148 ?_
  refine lv_iload_n F.1 F.2.1 dX8_gate_151 rfl (lv_at hl 4 rfl) ?_
  refine lv_iload_n F.1 F.2.1 dX8_gate_152 rfl (lv_at hl 5 rfl) ?_
  refine lv_iload F.1 F.2.1 dX8_gate_153 (lv_at hl 6 rfl) ?_
  refine lv_iload F.1 F.2.1 dX8_gate_155 (lv_at hl 2 rfl) ?_
  refine lv_iload F.1 F.2.1 dX8_gate_157 (lv_at hl 1 rfl) ?_
  refine lv_iload F.1 F.2.1 dX8_gate_159 (lv_at hl 0 rfl) ?_
  obtain ⟨r_23, S_24, hq_22, h⟩ := bi_some h
  refine rw_vi F hK hW hS [.int x1, .int x2, .int x5, .int y0, .int v_12, .int r_20] (rest := [.ref (G.2.2 0 0)]) (c_X5_addGate l G A x1 x2 x5 y0 v_12 r_20 S_21 (r_23, S_24) hq_22) (cwV 6 F.2.2.2.2 gX8_gate_X5_addGate rfl rfl rfl (by decide +kernel) ⟨Nat.le_of_ble_eq_true rfl, Nat.le_of_ble_eq_true rfl⟩) (rw_recv (q0 := 2) hK hW idC_2 rfl rfl) rfl hl.1 rfl (Nat.le_of_ble_eq_true rfl) dX8_gate_161 (fun H locs hW hS => ?_)
  obtain ⟨r_26, S_27, hq_25, h⟩ := bi_some h
  refine rw_vi F hK hW hS [.int r_23] (rest := []) (c_X8_noteNode l G A r_23 S_24 (r_26, S_27) hq_25) (cwV 1 F.2.2.2.2 gX8_gate_X8_noteNode rfl rfl rfl (by decide +kernel) ⟨Nat.le_of_ble_eq_true rfl, Nat.le_of_ble_eq_true rfl⟩) (rw_recv (q0 := 0) hK hW idC_0 rfl rfl) rfl hl.1 rfl (Nat.le_of_ble_eq_true rfl) dX8_gate_164 (fun H locs hW hS => ?_)
  exact rw_ret F hr hlk hK hW hS h dX8_gate_167
set_option maxHeartbeats 4000000 in
set_option maxRecDepth 100000 in
theorem w_X8_gate_82 {p : Program} {l : Launch} {e : Env} {s : State} {m : MethodId} {args : Array Value} {below : List Frame} {meth : Method} {c : Code} {G : GT} {A : Nat → Prop} (F : CallFix p m c cX8_gate 9 s args wsX8_gate RX8) (hr : meth.sig.returnType = (some .int)) (hlk : meth.locks = false) (hK : va_K G.1 vwCl (tyl G) s) (out : Int32 × St) : ∀ (S : St) (x1 : Int32) (x2 : Int32) (x4 : Int32) (y0 : Int32) (H : Heap) (locs : List Loc) (ls : Array Slot), Wd shC idsC G A S H → va_S A s.heap H locs → lv_has ls 9 [(0, .ref (G.2.2 0 0)), (1, .int x1), (2, .int x2), (4, .int x4)] → j_X8_gate_82 S x1 x2 x4 y0 = some out → W p l e rm_X8_gate s m args below meth c H locs 0 0 (MQ below (QI shC idsC G A out) args s 0 0 A) (F0 m 82 ls [.int y0]) := by
  intro S x1 x2 x4 y0 H locs ls hW hS hl h
  unfold j_X8_gate_82 at h
  refine lv_istore (lv' := [(5, .int y0), (0, .ref (G.2.2 0 0)), (1, .int x1), (2, .int x2), (4, .int x4)]) F.1 F.2.1 dX8_gate_82 hl (by decide) rfl (fun ls hl => ?_)
  refine lv_iload_n F.1 F.2.1 dX8_gate_84 rfl (lv_at hl 2 rfl) ?_
  refine lv_bipush (v := 6) F.1 F.2.1 dX8_gate_85 (by decide) ?_
  refine lv_icmp_ne (tgt := 95) F.1 F.2.1 dX8_gate_87 (by decide) (fun c_11 => ?_) (fun c_11 => ?_)
  · have h := (if_neg c_11).symm.trans h
    refine lv_iconst (v := 0) F.1 F.2.1 dX8_gate_95 (by decide) ?_
    exact w_X8_gate_96 F hr hlk hK out  _ _ _ _ _ _ _ _  hW hS (lv_sub hl [1, 2, 3, 0] rfl) h
  · have h := (if_pos c_11).symm.trans h
    refine lv_iload F.1 F.2.1 dX8_gate_90 (lv_at hl 4 rfl) ?_
    refine lv_goto (tgt := 96) F.1 F.2.1 dX8_gate_92 (by decide) ?_
    exact w_X8_gate_96 F hr hlk hK out  _ _ _ _ _ _ _ _  hW hS (lv_sub hl [1, 2, 3, 0] rfl) h
set_option maxHeartbeats 4000000 in
set_option maxRecDepth 100000 in
theorem w_X8_gate_58 {p : Program} {l : Launch} {e : Env} {s : State} {m : MethodId} {args : Array Value} {below : List Frame} {meth : Method} {c : Code} {G : GT} {A : Nat → Prop} (F : CallFix p m c cX8_gate 9 s args wsX8_gate RX8) (hr : meth.sig.returnType = (some .int)) (hlk : meth.locks = false) (hK : va_K G.1 vwCl (tyl G) s) (out : Int32 × St) : ∀ (S : St) (x1 : Int32) (x2 : Int32) (x3 : Int32) (x4 : Int32) (H : Heap) (locs : List Loc) (ls : Array Slot), Wd shC idsC G A S H → va_S A s.heap H locs → lv_has ls 9 [(0, .ref (G.2.2 0 0)), (1, .int x1), (2, .int x2), (3, .int x3), (4, .int x4)] → j_X8_gate_58 S x1 x2 x3 x4 = some out → W p l e rm_X8_gate s m args below meth c H locs 0 0 (MQ below (QI shC idsC G A out) args s 0 0 A) (F0 m 58 ls []) := by
  intro S x1 x2 x3 x4 H locs ls hW hS hl h
  unfold j_X8_gate_58 at h
  refine lv_aload_n F.1 F.2.1 dX8_gate_58 rfl (lv_at hl 0 rfl) ?_
  refine rw_get (q0 := 0) F hK hW idC_0 rfl rfl in_X8_gate_X8 1 (by decide) lk_X8_gate_19 rfl dX8_gate_59 ?_
  refine rw_get (q0 := 2) F hK hW idC_2 rfl rfl in_X8_gate_X5 8 (by decide) lk_X8_gate_69 rfl dX8_gate_62 ?_
  refine lv_bipush (v := 40) F.1 F.2.1 dX8_gate_65 (by decide) ?_
  refine lv_icmp_lt (tgt := 73) F.1 F.2.1 dX8_gate_67 (by decide) (fun c_9 => ?_) (fun c_9 => ?_)
  · have h := (if_pos c_9).symm.trans h
    refine lv_iload_n F.1 F.2.1 dX8_gate_73 rfl (lv_at hl 1 rfl) ?_
    refine lv_if_eq (tgt := 81) F.1 F.2.1 dX8_gate_74 (by decide) (fun c_10 => ?_) (fun c_10 => ?_)
    · have h := (if_pos c_10).symm.trans h
      refine lv_iconst (v := 0) F.1 F.2.1 dX8_gate_81 (by decide) ?_
      exact w_X8_gate_82 F hr hlk hK out  _ _ _ _ _ _ _ _  hW hS (lv_sub hl [0, 1, 2, 4] rfl) h
    · have h := (if_neg c_10).symm.trans h
      refine lv_iload_n F.1 F.2.1 dX8_gate_77 rfl (lv_at hl 3 rfl) ?_
      refine lv_goto (tgt := 82) F.1 F.2.1 dX8_gate_78 (by decide) ?_
      exact w_X8_gate_82 F hr hlk hK out  _ _ _ _ _ _ _ _  hW hS (lv_sub hl [0, 1, 2, 4] rfl) h
  · have h := (if_neg c_9).symm.trans h
    refine lv_bipush (v := -3) F.1 F.2.1 dX8_gate_70 (by decide) ?_
    exact rw_ret F hr hlk hK hW hS h dX8_gate_72
set_option maxHeartbeats 4000000 in
set_option maxRecDepth 100000 in
theorem w_X8_gate_56 {p : Program} {l : Launch} {e : Env} {s : State} {m : MethodId} {args : Array Value} {below : List Frame} {meth : Method} {c : Code} {G : GT} {A : Nat → Prop} (F : CallFix p m c cX8_gate 9 s args wsX8_gate RX8) (hr : meth.sig.returnType = (some .int)) (hlk : meth.locks = false) (hK : va_K G.1 vwCl (tyl G) s) (out : Int32 × St) : ∀ (S : St) (H : Heap) (locs : List Loc) (ls : Array Slot), Wd shC idsC G A S H → va_S A s.heap H locs → lv_has ls 9 [] → j_X8_gate_56 S = some out → W p l e rm_X8_gate s m args below meth c H locs 0 0 (MQ below (QI shC idsC G A out) args s 0 0 A) (F0 m 56 ls []) := by
  intro S H locs ls hW hS hl h
  unfold j_X8_gate_56 at h
  refine lv_iconst (v := -1) F.1 F.2.1 dX8_gate_56 (by decide) ?_
  exact rw_ret F hr hlk hK hW hS h dX8_gate_57
set_option maxHeartbeats 4000000 in
set_option maxRecDepth 100000 in
theorem w_X8_gate_38 {p : Program} {l : Launch} {e : Env} {s : State} {m : MethodId} {args : Array Value} {below : List Frame} {meth : Method} {c : Code} {G : GT} {A : Nat → Prop} (F : CallFix p m c cX8_gate 9 s args wsX8_gate RX8) (hr : meth.sig.returnType = (some .int)) (hlk : meth.locks = false) (hK : va_K G.1 vwCl (tyl G) s) (out : Int32 × St) : ∀ (S : St) (x1 : Int32) (x2 : Int32) (x3 : Int32) (x4 : Int32) (H : Heap) (locs : List Loc) (ls : Array Slot), Wd shC idsC G A S H → va_S A s.heap H locs → lv_has ls 9 [(0, .ref (G.2.2 0 0)), (1, .int x1), (2, .int x2), (3, .int x3), (4, .int x4)] → j_X8_gate_38 S x1 x2 x3 x4 = some out → W p l e rm_X8_gate s m args below meth c H locs 0 0 (MQ below (QI shC idsC G A out) args s 0 0 A) (F0 m 38 ls []) := by
  intro S x1 x2 x3 x4 H locs ls hW hS hl h
  unfold j_X8_gate_38 at h
  refine lv_iload_n F.1 F.2.1 dX8_gate_38 rfl (lv_at hl 1 rfl) ?_
  refine lv_bipush (v := 6) F.1 F.2.1 dX8_gate_39 (by decide) ?_
  refine lv_icmp_ne (tgt := 58) F.1 F.2.1 dX8_gate_41 (by decide) (fun c_8 => ?_) (fun c_8 => ?_)
  · have h := (if_neg c_8).symm.trans h
    exact w_X8_gate_58 F hr hlk hK out  _ _ _ _ _ _ _ _  hW hS hl h
  · have h := (if_pos c_8).symm.trans h
    refine lv_aload_n F.1 F.2.1 dX8_gate_44 rfl (lv_at hl 0 rfl) ?_
    refine rw_get (q0 := 0) F hK hW idC_0 rfl rfl in_X8_gate_X8 1 (by decide) lk_X8_gate_19 rfl dX8_gate_45 ?_
    refine lv_iload F.1 F.2.1 dX8_gate_48 (lv_at hl 4 rfl) ?_
    obtain ⟨r_29, S_30, hq_28, h⟩ := bi_some h
    refine rw_vi F hK hW hS [.int x4] (rest := []) (c_X5_hasNode l G A x4 S (r_29, S_30) hq_28) (cwV 1 F.2.2.2.2 gX8_gate_X5_hasNode rfl rfl rfl (by decide +kernel) ⟨Nat.le_of_ble_eq_true rfl, Nat.le_of_ble_eq_true rfl⟩) (rw_recv (q0 := 2) hK hW idC_2 rfl rfl) rfl hl.1 rfl (Nat.le_of_ble_eq_true rfl) dX8_gate_50 (fun H locs hW hS => ?_)
    refine lv_if_ne (tgt := 58) F.1 F.2.1 dX8_gate_53 (by decide) (fun c_31 => ?_) (fun c_31 => ?_)
    · have h := (if_neg c_31).symm.trans h
      exact w_X8_gate_58 F hr hlk hK out  _ _ _ _ _ _ _ _  hW hS hl h
    · have h := (if_pos c_31).symm.trans h
      exact w_X8_gate_56 F hr hlk hK out  _ _ _ _  hW hS (lv_sub hl [] rfl) h
set_option maxHeartbeats 4000000 in
set_option maxRecDepth 100000 in
theorem c_X8_gate (l : Launch) (G : GT) (A : Nat → Prop) (a0 : Int32) (a1 : Int32) (a2 : Int32) (a3 : Int32) (S : St) (out : Int32 × St) (h : f_X8_gate a0 a1 a2 a3 S = some out) : Met l yX8_gate wsX8_gate rm_X8_gate (va_Pc [.ref (G.2.2 0 0), .int a0, .int a1, .int a2, .int a3] (WD shC idsC G A S)) (QI shC idsC G A out) 0 0 A := by
  refine Met.ofW (cc := cX8_gate) (maxL := 9) (ret := (some .int)) (by decide) rfl ?_
  intro p e s m args below meth c s₁ B hml hv
  obtain ⟨rfl, hW, hK⟩ := hv
  have F : CallFix p m c cX8_gate 9 s _ wsX8_gate RX8 := ⟨B.exec, B.bytes, hml, findClass_of_methodNamed B.named, atoms_spec (ws := wsX8_gate) B.pre⟩
  have hr := B.returns
  have hlk := B.notSynchronized
  have hS : va_S A s.heap s.heap [] := va_S.rf
  have hl := lv_entry ([.ref (G.2.2 0 0), .int a0, .int a1, .int a2, .int a3]) (n := 9) (Nat.le_of_ble_eq_true rfl)
  rw [lg_entry_eq]
  generalize (lg_sl ([.ref (G.2.2 0 0), .int a0, .int a1, .int a2, .int a3]) ++ List.replicate (9 - (lg_sl ([.ref (G.2.2 0 0), .int a0, .int a1, .int a2, .int a3])).length) Slot.unset).toArray = ls at hl ⊢
  have hl : lv_has ls 9 [(0, .ref (G.2.2 0 0)), (1, .int a0), (2, .int a1), (3, .int a2), (4, .int a3)] := hl
  unfold f_X8_gate at h
  refine lv_iload_n F.1 F.2.1 dX8_gate_0 rfl (lv_at hl 1 rfl) ?_
  refine lv_if_lt (tgt := 21) F.1 F.2.1 dX8_gate_1 (by decide) (fun c_1 => ?_) (fun c_1 => ?_)
  · have h := (if_pos c_1).symm.trans h
    exact w_X8_gate_21 F hr hlk hK out  _ _ _ _  hW hS (lv_sub hl [] rfl) h
  · have h := (if_neg c_1).symm.trans h
    refine lv_iload_n F.1 F.2.1 dX8_gate_4 rfl (lv_at hl 1 rfl) ?_
    refine lv_bipush (v := 6) F.1 F.2.1 dX8_gate_5 (by decide) ?_
    refine lv_icmp_gt (tgt := 21) F.1 F.2.1 dX8_gate_7 (by decide) (fun c_2 => ?_) (fun c_2 => ?_)
    · have h := (if_pos c_2).symm.trans h
      exact w_X8_gate_21 F hr hlk hK out  _ _ _ _  hW hS (lv_sub hl [] rfl) h
    · have h := (if_neg c_2).symm.trans h
      refine lv_aload_n F.1 F.2.1 dX8_gate_10 rfl (lv_at hl 0 rfl) ?_
      refine rw_get (q0 := 0) F hK hW idC_0 rfl rfl in_X8_gate_X8 1 (by decide) lk_X8_gate_19 rfl dX8_gate_11 ?_
      refine lv_iload_n F.1 F.2.1 dX8_gate_14 rfl (lv_at hl 2 rfl) ?_
      obtain ⟨r_4, S_5, hq_3, h⟩ := bi_some h
      refine rw_vi F hK hW hS [.int a1] (rest := []) (c_X5_hasNode l G A a1 S (r_4, S_5) hq_3) (cwV 1 F.2.2.2.2 gX8_gate_X5_hasNode rfl rfl rfl (by decide +kernel) ⟨Nat.le_of_ble_eq_true rfl, Nat.le_of_ble_eq_true rfl⟩) (rw_recv (q0 := 2) hK hW idC_2 rfl rfl) rfl hl.1 rfl (Nat.le_of_ble_eq_true rfl) dX8_gate_15 (fun H locs hW hS => ?_)
      refine lv_if_ne (tgt := 23) F.1 F.2.1 dX8_gate_18 (by decide) (fun c_6 => ?_) (fun c_6 => ?_)
      · have h := (if_neg c_6).symm.trans h
        refine lv_iload_n F.1 F.2.1 dX8_gate_23 rfl (lv_at hl 1 rfl) ?_
        refine lv_if_eq (tgt := 38) F.1 F.2.1 dX8_gate_24 (by decide) (fun c_7 => ?_) (fun c_7 => ?_)
        · have h := (if_pos c_7).symm.trans h
          exact w_X8_gate_38 F hr hlk hK out  _ _ _ _ _ _ _ _  hW hS hl h
        · have h := (if_neg c_7).symm.trans h
          refine lv_aload_n F.1 F.2.1 dX8_gate_27 rfl (lv_at hl 0 rfl) ?_
          refine rw_get (q0 := 0) F hK hW idC_0 rfl rfl in_X8_gate_X8 1 (by decide) lk_X8_gate_19 rfl dX8_gate_28 ?_
          refine lv_iload_n F.1 F.2.1 dX8_gate_31 rfl (lv_at hl 3 rfl) ?_
          obtain ⟨r_33, S_34, hq_32, h⟩ := bi_some h
          refine rw_vi F hK hW hS [.int a2] (rest := []) (c_X5_hasNode l G A a2 S_5 (r_33, S_34) hq_32) (cwV 1 F.2.2.2.2 gX8_gate_X5_hasNode rfl rfl rfl (by decide +kernel) ⟨Nat.le_of_ble_eq_true rfl, Nat.le_of_ble_eq_true rfl⟩) (rw_recv (q0 := 2) hK hW idC_2 rfl rfl) rfl hl.1 rfl (Nat.le_of_ble_eq_true rfl) dX8_gate_32 (fun H locs hW hS => ?_)
          refine lv_if_eq (tgt := 56) F.1 F.2.1 dX8_gate_35 (by decide) (fun c_35 => ?_) (fun c_35 => ?_)
          · have h := (if_pos c_35).symm.trans h
            exact w_X8_gate_56 F hr hlk hK out  _ _ _ _  hW hS (lv_sub hl [] rfl) h
          · have h := (if_neg c_35).symm.trans h
            exact w_X8_gate_38 F hr hlk hK out  _ _ _ _ _ _ _ _  hW hS hl h
      · have h := (if_pos c_6).symm.trans h
        exact w_X8_gate_21 F hr hlk hK out  _ _ _ _  hW hS (lv_sub hl [] rfl) h
/-! CellCover$Net.addOutput(I)I -/
abbrev rm_X5_addOutput : Room := { frames := 0, cells := 0, slots := 0, locals := 0 }
theorem in_X5_addOutput_X5 : ∀ w ∈ wsX50, w ∈ wsX5_addOutput := by decide +kernel
theorem lk_X5_addOutput_43 : Cond.fieldLink RX5 43 "CellCover$Net" "outputs" "I" ∈ wsX5_addOutput := by decide +kernel
theorem lk_X5_addOutput_27 : Cond.fieldLink RX5 27 "CellCover$Net" "outputNode" "[I" ∈ wsX5_addOutput := by decide +kernel
set_option maxHeartbeats 4000000 in
set_option maxRecDepth 100000 in
theorem c_X5_addOutput (l : Launch) (G : GT) (A : Nat → Prop) (a0 : Int32) (S : St) (out : Int32 × St) (h : f_X5_addOutput a0 S = some out) : Met l yX5_addOutput wsX5_addOutput rm_X5_addOutput (va_Pc [.ref (G.2.2 2 0), .int a0] (WD shC idsC G A S)) (QI shC idsC G A out) 0 0 A := by
  refine Met.ofW (cc := cX5_addOutput) (maxL := 3) (ret := (some .int)) (by decide) rfl ?_
  intro p e s m args below meth c s₁ B hml hv
  obtain ⟨rfl, hW, hK⟩ := hv
  have F : CallFix p m c cX5_addOutput 3 s _ wsX5_addOutput RX5 := ⟨B.exec, B.bytes, hml, findClass_of_methodNamed B.named, atoms_spec (ws := wsX5_addOutput) B.pre⟩
  have hr := B.returns
  have hlk := B.notSynchronized
  have hS : va_S A s.heap s.heap [] := va_S.rf
  have hl := lv_entry ([.ref (G.2.2 2 0), .int a0]) (n := 3) (Nat.le_of_ble_eq_true rfl)
  rw [lg_entry_eq]
  generalize (lg_sl ([.ref (G.2.2 2 0), .int a0]) ++ List.replicate (3 - (lg_sl ([.ref (G.2.2 2 0), .int a0])).length) Slot.unset).toArray = ls at hl ⊢
  have hl : lv_has ls 3 [(0, .ref (G.2.2 2 0)), (1, .int a0)] := hl
  unfold f_X5_addOutput at h
  refine lv_aload_n F.1 F.2.1 dX5_addOutput_0 rfl (lv_at hl 0 rfl) ?_
  refine rw_get (q0 := 2) F hK hW idC_2 rfl rfl in_X5_addOutput_X5 10 (by decide) lk_X5_addOutput_43 rfl dX5_addOutput_1 ?_
  refine lv_topi (fun v_1 ev_1 => ?_)
  have h := lt_n ev_1 h
  refine lv_istore_n (lv' := [(2, .int v_1), (0, .ref (G.2.2 2 0)), (1, .int a0)]) F.1 F.2.1 dX5_addOutput_4 rfl hl (by decide) rfl (fun ls hl => ?_)
  refine lv_aload_n F.1 F.2.1 dX5_addOutput_5 rfl (lv_at hl 1 rfl) ?_
  refine rw_get (q0 := 2) F hK hW idC_2 rfl rfl in_X5_addOutput_X5 5 (by decide) lk_X5_addOutput_27 rfl dX5_addOutput_6 ?_
  refine lv_iload_n F.1 F.2.1 dX5_addOutput_9 rfl (lv_at hl 0 rfl) ?_
  refine lv_iload_n F.1 F.2.1 dX5_addOutput_10 rfl (lv_at hl 2 rfl) ?_
  obtain ⟨b_2, h⟩ := gd_some h
  refine rw_iast ndC (q0 := 40) F hK hW hS idC_20 (fun _ => rfl) (ix_in b_2) dX5_addOutput_11 (fun H locs S_3 eS_3 hW hS => ?_)
  have h := lt_n eS_3 h
  refine lv_aload_n F.1 F.2.1 dX5_addOutput_12 rfl (lv_at hl 1 rfl) ?_
  refine lv_dup F.1 F.2.1 dX5_addOutput_13 rfl ?_
  refine rw_get (q0 := 2) F hK hW idC_2 rfl rfl in_X5_addOutput_X5 10 (by decide) lk_X5_addOutput_43 rfl dX5_addOutput_14 ?_
  refine lv_iconst (v := 1) F.1 F.2.1 dX5_addOutput_17 (by decide) ?_
  refine lv_iadd F.1 F.2.1 dX5_addOutput_18 ?_
  refine rw_put ndC (q0 := 2) (x := (S_3 2 0 10) + 1) F hK hW hS idC_2 rfl rfl in_X5_addOutput_X5 tyX5 tyX5_ok nmX5 10 (by decide) lk_X5_addOutput_43 rfl (ty := .int) (by decide +kernel) rfl rfl (Nat.le_of_ble_eq_true rfl) rfl dX5_addOutput_19 (fun H locs S_4 eS_4 hW hS => ?_)
  have h := lt_n eS_4 h
  refine lv_iload_n F.1 F.2.1 dX5_addOutput_22 rfl (lv_at hl 0 rfl) ?_
  exact rw_ret F hr hlk hK hW hS h dX5_addOutput_23
/-! CellCover.output(I)I -/
abbrev rm_X8_output : Room := { frames := 2, cells := 0, slots := 0, locals := 44 }
theorem in_X8_output_X8 : ∀ w ∈ wsX80, w ∈ wsX8_output := by decide +kernel
theorem in_X8_output_X5 : ∀ w ∈ wsX50, w ∈ wsX8_output := by decide +kernel
theorem lk_X8_output_19 : Cond.fieldLink RX8 19 "CellCover" "net" "LCellCover$Net;" ∈ wsX8_output := by decide +kernel
theorem lk_X8_output_103 : Cond.fieldLink RX8 103 "CellCover$Net" "outputs" "I" ∈ wsX8_output := by decide +kernel
theorem lk_X8_output_12 : Cond.fieldLink RX8 12 "CellCover" "vertices" "LCellCover$Vertices;" ∈ wsX8_output := by decide +kernel
set_option maxHeartbeats 4000000 in
set_option maxRecDepth 100000 in
theorem c_X8_output (l : Launch) (G : GT) (A : Nat → Prop) (a0 : Int32) (S : St) (out : Int32 × St) (h : f_X8_output a0 S = some out) : Met l yX8_output wsX8_output rm_X8_output (va_Pc [.ref (G.2.2 0 0), .int a0] (WD shC idsC G A S)) (QI shC idsC G A out) 0 0 A := by
  refine Met.ofW (cc := cX8_output) (maxL := 3) (ret := (some .int)) (by decide) rfl ?_
  intro p e s m args below meth c s₁ B hml hv
  obtain ⟨rfl, hW, hK⟩ := hv
  have F : CallFix p m c cX8_output 3 s _ wsX8_output RX8 := ⟨B.exec, B.bytes, hml, findClass_of_methodNamed B.named, atoms_spec (ws := wsX8_output) B.pre⟩
  have hr := B.returns
  have hlk := B.notSynchronized
  have hS : va_S A s.heap s.heap [] := va_S.rf
  have hl := lv_entry ([.ref (G.2.2 0 0), .int a0]) (n := 3) (Nat.le_of_ble_eq_true rfl)
  rw [lg_entry_eq]
  generalize (lg_sl ([.ref (G.2.2 0 0), .int a0]) ++ List.replicate (3 - (lg_sl ([.ref (G.2.2 0 0), .int a0])).length) Slot.unset).toArray = ls at hl ⊢
  have hl : lv_has ls 3 [(0, .ref (G.2.2 0 0)), (1, .int a0)] := hl
  unfold f_X8_output at h
  refine lv_aload_n F.1 F.2.1 dX8_output_0 rfl (lv_at hl 0 rfl) ?_
  refine rw_get (q0 := 0) F hK hW idC_0 rfl rfl in_X8_output_X8 1 (by decide) lk_X8_output_19 rfl dX8_output_1 ?_
  refine lv_iload_n F.1 F.2.1 dX8_output_4 rfl (lv_at hl 1 rfl) ?_
  obtain ⟨r_2, S_3, hq_1, h⟩ := bi_some h
  refine rw_vi F hK hW hS [.int a0] (rest := []) (c_X5_hasNode l G A a0 S (r_2, S_3) hq_1) (cwV 1 F.2.2.2.2 gX8_output_X5_hasNode rfl rfl rfl (by decide +kernel) ⟨Nat.le_of_ble_eq_true rfl, Nat.le_of_ble_eq_true rfl⟩) (rw_recv (q0 := 2) hK hW idC_2 rfl rfl) rfl hl.1 rfl (Nat.le_of_ble_eq_true rfl) dX8_output_5 (fun H locs hW hS => ?_)
  refine lv_if_ne (tgt := 13) F.1 F.2.1 dX8_output_8 (by decide) (fun c_4 => ?_) (fun c_4 => ?_)
  · have h := (if_neg c_4).symm.trans h
    refine lv_aload_n F.1 F.2.1 dX8_output_13 rfl (lv_at hl 0 rfl) ?_
    refine rw_get (q0 := 0) F hK hW idC_0 rfl rfl in_X8_output_X8 1 (by decide) lk_X8_output_19 rfl dX8_output_14 ?_
    refine rw_get (q0 := 2) F hK hW idC_2 rfl rfl in_X8_output_X5 10 (by decide) lk_X8_output_103 rfl dX8_output_17 ?_
    refine lv_bipush (v := 8) F.1 F.2.1 dX8_output_20 (by decide) ?_
    refine lv_icmp_lt (tgt := 28) F.1 F.2.1 dX8_output_22 (by decide) (fun c_5 => ?_) (fun c_5 => ?_)
    · have h := (if_pos c_5).symm.trans h
      refine lv_aload_n F.1 F.2.1 dX8_output_28 rfl (lv_at hl 0 rfl) ?_
      refine rw_get (q0 := 0) F hK hW idC_0 rfl rfl in_X8_output_X8 1 (by decide) lk_X8_output_19 rfl dX8_output_29 ?_
      refine lv_iload_n F.1 F.2.1 dX8_output_32 rfl (lv_at hl 1 rfl) ?_
      obtain ⟨r_7, S_8, hq_6, h⟩ := bi_some h
      refine rw_vi F hK hW hS [.int a0] (rest := []) (c_X5_addOutput l G A a0 S_3 (r_7, S_8) hq_6) (cwV 1 F.2.2.2.2 gX8_output_X5_addOutput rfl rfl rfl (by decide +kernel) ⟨Nat.le_of_ble_eq_true rfl, Nat.le_of_ble_eq_true rfl⟩) (rw_recv (q0 := 2) hK hW idC_2 rfl rfl) rfl hl.1 rfl (Nat.le_of_ble_eq_true rfl) dX8_output_33 (fun H locs hW hS => ?_)
      refine lv_istore_n (lv' := [(2, .int r_7), (0, .ref (G.2.2 0 0)), (1, .int a0)]) F.1 F.2.1 dX8_output_36 rfl hl (by decide) rfl (fun ls hl => ?_)
      refine lv_aload_n F.1 F.2.1 dX8_output_37 rfl (lv_at hl 1 rfl) ?_
      refine rw_get (q0 := 0) F hK hW idC_0 rfl rfl in_X8_output_X8 0 (by decide) lk_X8_output_12 rfl dX8_output_38 ?_
      refine lv_aload_n F.1 F.2.1 dX8_output_41 rfl (lv_at hl 1 rfl) ?_
      refine rw_get (q0 := 0) F hK hW idC_0 rfl rfl in_X8_output_X8 1 (by decide) lk_X8_output_19 rfl dX8_output_42 ?_
      obtain ⟨q_9, hq_9, h⟩ := bv_some h
      refine rw_vv F hK hW hS [.ref (G.2.2 2 0)] (rest := []) (c_X7_mark l G A  S_8 q_9 hq_9) (cwV 1 F.2.2.2.2 gX8_output_X7_mark rfl rfl rfl (by decide +kernel) ⟨Nat.le_of_ble_eq_true rfl, Nat.le_of_ble_eq_true rfl⟩) (rw_recv (q0 := 1) hK hW idC_1 rfl rfl) rfl hl.1 rfl (Nat.le_of_ble_eq_true rfl) dX8_output_45 (fun H locs hW hS => ?_)
      refine lv_aload_n F.1 F.2.1 dX8_output_48 rfl (lv_at hl 1 rfl) ?_
      refine lv_iconst (v := 1) F.1 F.2.1 dX8_output_49 (by decide) ?_
      obtain ⟨q_11, hq_11, h⟩ := bv_some h
      refine rw_vv F hK hW hS [.int 1] (rest := []) (c_X8_noteChange l G A 1 q_9 q_11 hq_11) (cwV 1 F.2.2.2.2 gX8_output_X8_noteChange rfl rfl rfl (by decide +kernel) ⟨Nat.le_of_ble_eq_true rfl, Nat.le_of_ble_eq_true rfl⟩) (rw_recv (q0 := 0) hK hW idC_0 rfl rfl) rfl hl.1 rfl (Nat.le_of_ble_eq_true rfl) dX8_output_50 (fun H locs hW hS => ?_)
      refine lv_iload_n F.1 F.2.1 dX8_output_53 rfl (lv_at hl 0 rfl) ?_
      exact rw_ret F hr hlk hK hW hS h dX8_output_54
    · have h := (if_neg c_5).symm.trans h
      refine lv_bipush (v := -3) F.1 F.2.1 dX8_output_25 (by decide) ?_
      exact rw_ret F hr hlk hK hW hS h dX8_output_27
  · have h := (if_pos c_4).symm.trans h
    refine lv_iconst (v := -1) F.1 F.2.1 dX8_output_11 (by decide) ?_
    exact rw_ret F hr hlk hK hW hS h dX8_output_12
/-! CellCover$Tape.append(JI)I -/
abbrev rm_X6_append : Room := { frames := 0, cells := 0, slots := 0, locals := 0 }
theorem in_X6_append_X6 : ∀ w ∈ wsX60, w ∈ wsX6_append := by decide +kernel
theorem lk_X6_append_15 : Cond.fieldLink RX6 15 "CellCover$Tape" "length" "I" ∈ wsX6_append := by decide +kernel
theorem lk_X6_append_9 : Cond.fieldLink RX6 9 "CellCover$Tape" "bytes" "[I" ∈ wsX6_append := by decide +kernel
theorem lk_X6_append_25 : Cond.constantLong RX6 25 255 ∈ wsX6_append := by decide +kernel
set_option maxHeartbeats 4000000 in
set_option maxRecDepth 100000 in
theorem w_X6_append_5 {p : Program} {l : Launch} {e : Env} {s : State} {m : MethodId} {args : Array Value} {below : List Frame} {meth : Method} {c : Code} {G : GT} {A : Nat → Prop} (F : CallFix p m c cX6_append 5 s args wsX6_append RX6) (hr : meth.sig.returnType = (some .int)) (hlk : meth.locks = false) (hK : va_K G.1 vwCl (tyl G) s) (out : Int32 × St) : ∀ n : Nat, ∀ (S : St) (x1 : Int64) (x4 : Int32) (H : Heap) (locs : List Loc) (ls : Array Slot), Wd shC idsC G A S H → va_S A s.heap H locs → lv_has ls 5 [(0, .ref (G.2.2 3 0)), (1, .long x1), (4, .int x4)] → l_X6_append_5 n S x1 x4 = some out → W p l e rm_X6_append s m args below meth c H locs 0 0 (MQ below (QI shC idsC G A out) args s 0 0 A) (F0 m 5 ls []) := by
  intro n
  induction n with
  | zero =>
    intro S x1 x4 H locs ls hW hS hl h
    cases h
  | succ n Kb =>
    generalize hkb : l_X6_append_5 n = kb at Kb
    intro S x1 x4 H locs ls hW hS hl h
    rw [show l_X6_append_5 (n + 1) = b_X6_append_5 (l_X6_append_5 n) from rfl, hkb] at h
    unfold b_X6_append_5 at h
    refine lv_iload F.1 F.2.1 dX6_append_5 (lv_at hl 2 rfl) ?_
    refine lv_if_lt (tgt := 47) F.1 F.2.1 dX6_append_7 (by decide) (fun c_2 => ?_) (fun c_2 => ?_)
    · have h := (if_pos c_2).symm.trans h
      refine lv_aload_n F.1 F.2.1 dX6_append_47 rfl (lv_at hl 0 rfl) ?_
      refine rw_get (q0 := 3) F hK hW idC_3 rfl rfl in_X6_append_X6 1 (by decide) lk_X6_append_15 rfl dX6_append_48 ?_
      exact rw_ret F hr hlk hK hW hS h dX6_append_51
    · have h := (if_neg c_2).symm.trans h
      refine lv_aload_n F.1 F.2.1 dX6_append_10 rfl (lv_at hl 0 rfl) ?_
      refine rw_get (q0 := 3) F hK hW idC_3 rfl rfl in_X6_append_X6 0 (by decide) lk_X6_append_9 rfl dX6_append_11 ?_
      refine lv_aload_n F.1 F.2.1 dX6_append_14 rfl (lv_at hl 0 rfl) ?_
      refine rw_get (q0 := 3) F hK hW idC_3 rfl rfl in_X6_append_X6 1 (by decide) lk_X6_append_15 rfl dX6_append_15 ?_
      refine lv_lload_n F.1 F.2.1 dX6_append_18 rfl (lv_at hl 1 rfl) ?_
      refine lv_bipush (v := 8) F.1 F.2.1 dX6_append_19 (by decide) ?_
      refine lv_iload F.1 F.2.1 dX6_append_21 (lv_at hl 2 rfl) ?_
      refine lv_imul F.1 F.2.1 dX6_append_23 ?_
      refine lv_lushr (v := (x1.toUInt64 >>> ((8 * x4).toInt64.toUInt64 &&& Int64.toUInt64 63)).toInt64) F.1 F.2.1 dX6_append_24 rfl ?_
      refine lv_ldc2 (v := 255) F.1 F.2.1 F.2.2.2.1 (F.2.2.2.2 _ lk_X6_append_25) dX6_append_25 ?_
      refine lv_land F.1 F.2.1 dX6_append_28 ?_
      refine lv_l2i (v := (((x1.toUInt64 >>> ((8 * x4).toInt64.toUInt64 &&& Int64.toUInt64 63)).toInt64) &&& 255).toInt32) F.1 F.2.1 dX6_append_29 rfl ?_
      obtain ⟨b_3, h⟩ := gd_some h
      refine rw_iast ndC (q0 := 43) F hK hW hS idC_23 (fun _ => rfl) (ix_in b_3) dX6_append_30 (fun H locs S_4 eS_4 hW hS => ?_)
      have h := lt_n eS_4 h
      refine lv_aload_n F.1 F.2.1 dX6_append_31 rfl (lv_at hl 0 rfl) ?_
      refine lv_dup F.1 F.2.1 dX6_append_32 rfl ?_
      refine rw_get (q0 := 3) F hK hW idC_3 rfl rfl in_X6_append_X6 1 (by decide) lk_X6_append_15 rfl dX6_append_33 ?_
      refine lv_iconst (v := 1) F.1 F.2.1 dX6_append_36 (by decide) ?_
      refine lv_iadd F.1 F.2.1 dX6_append_37 ?_
      refine rw_put ndC (q0 := 3) (x := (S_4 3 0 1) + 1) F hK hW hS idC_3 rfl rfl in_X6_append_X6 tyX6 tyX6_ok nmX6 1 (by decide) lk_X6_append_15 rfl (ty := .int) (by decide +kernel) rfl rfl (Nat.le_of_ble_eq_true rfl) rfl dX6_append_38 (fun H locs S_5 eS_5 hW hS => ?_)
      have h := lt_n eS_5 h
      obtain ⟨v_6, ev_6⟩ : ∃ y : Int32, y = x4 + (-1) := ⟨_, rfl⟩
      have h := lt_n ev_6 h
      refine lv_iinc (v := v_6) (lv' := [(4, .int v_6), (0, .ref (G.2.2 3 0)), (1, .long x1)]) F.1 F.2.1 dX6_append_41 hl (k := 2) rfl (by rw [ev_6]; rfl) (by decide) rfl (fun ls hl => ?_)
      refine lv_goto (tgt := 5) F.1 F.2.1 dX6_append_44 (by decide) ?_
      exact Kb _ _ _ _ _ _  hW hS (lv_sub hl [1, 2, 0] rfl) h
set_option maxHeartbeats 4000000 in
set_option maxRecDepth 100000 in
theorem c_X6_append (l : Launch) (G : GT) (A : Nat → Prop) (a0 : Int64) (a1 : Int32) (S : St) (out : Int32 × St) (h : f_X6_append a0 a1 S = some out) : Met l yX6_append wsX6_append rm_X6_append (va_Pc [.ref (G.2.2 3 0), .long a0, .int a1] (WD shC idsC G A S)) (QI shC idsC G A out) 0 0 A := by
  refine Met.ofW (cc := cX6_append) (maxL := 5) (ret := (some .int)) (by decide) rfl ?_
  intro p e s m args below meth c s₁ B hml hv
  obtain ⟨rfl, hW, hK⟩ := hv
  have F : CallFix p m c cX6_append 5 s _ wsX6_append RX6 := ⟨B.exec, B.bytes, hml, findClass_of_methodNamed B.named, atoms_spec (ws := wsX6_append) B.pre⟩
  have hr := B.returns
  have hlk := B.notSynchronized
  have hS : va_S A s.heap s.heap [] := va_S.rf
  have hl := lv_entry ([.ref (G.2.2 3 0), .long a0, .int a1]) (n := 5) (Nat.le_of_ble_eq_true rfl)
  rw [lg_entry_eq]
  generalize (lg_sl ([.ref (G.2.2 3 0), .long a0, .int a1]) ++ List.replicate (5 - (lg_sl ([.ref (G.2.2 3 0), .long a0, .int a1])).length) Slot.unset).toArray = ls at hl ⊢
  have hl : lv_has ls 5 [(0, .ref (G.2.2 3 0)), (1, .long a0), (3, .int a1)] := hl
  unfold f_X6_append at h
  refine lv_iload_n F.1 F.2.1 dX6_append_0 rfl (lv_at hl 2 rfl) ?_
  refine lv_iconst (v := 1) F.1 F.2.1 dX6_append_1 (by decide) ?_
  refine lv_isub F.1 F.2.1 dX6_append_2 ?_
  refine lv_topi (fun v_1 ev_1 => ?_)
  have h := lt_n ev_1 h
  refine lv_istore (lv' := [(4, .int v_1), (0, .ref (G.2.2 3 0)), (1, .long a0), (3, .int a1)]) F.1 F.2.1 dX6_append_3 hl (by decide) rfl (fun ls hl => ?_)
  refine w_X6_append_5 F hr hlk hK out   5000 _ _ _ _ _ _  hW hS (lv_sub hl [1, 2, 0] rfl) h
/-! CellCover.type(JI)I -/
abbrev rm_X8_type : Room := { frames := 1, cells := 0, slots := 0, locals := 24 }
theorem in_X8_type_X8 : ∀ w ∈ wsX80, w ∈ wsX8_type := by decide +kernel
theorem in_X8_type_X6 : ∀ w ∈ wsX60, w ∈ wsX8_type := by decide +kernel
theorem lk_X8_type_26 : Cond.fieldLink RX8 26 "CellCover" "tape" "LCellCover$Tape;" ∈ wsX8_type := by decide +kernel
theorem lk_X8_type_117 : Cond.fieldLink RX8 117 "CellCover$Tape" "length" "I" ∈ wsX8_type := by decide +kernel
set_option maxHeartbeats 4000000 in
set_option maxRecDepth 100000 in
theorem w_X8_type_11 {p : Program} {l : Launch} {e : Env} {s : State} {m : MethodId} {args : Array Value} {below : List Frame} {meth : Method} {c : Code} {G : GT} {A : Nat → Prop} (F : CallFix p m c cX8_type 4 s args wsX8_type RX8) (hr : meth.sig.returnType = (some .int)) (hlk : meth.locks = false) (hK : va_K G.1 vwCl (tyl G) s) (out : Int32 × St) : ∀ (S : St) (H : Heap) (locs : List Loc) (ls : Array Slot), Wd shC idsC G A S H → va_S A s.heap H locs → lv_has ls 4 [] → j_X8_type_11 S = some out → W p l e rm_X8_type s m args below meth c H locs 0 0 (MQ below (QI shC idsC G A out) args s 0 0 A) (F0 m 11 ls []) := by
  intro S H locs ls hW hS hl h
  unfold j_X8_type_11 at h
  refine lv_iconst (v := -1) F.1 F.2.1 dX8_type_11 (by decide) ?_
  exact rw_ret F hr hlk hK hW hS h dX8_type_12
set_option maxHeartbeats 4000000 in
set_option maxRecDepth 100000 in
theorem c_X8_type (l : Launch) (G : GT) (A : Nat → Prop) (a0 : Int64) (a1 : Int32) (S : St) (out : Int32 × St) (h : f_X8_type a0 a1 S = some out) : Met l yX8_type wsX8_type rm_X8_type (va_Pc [.ref (G.2.2 0 0), .long a0, .int a1] (WD shC idsC G A S)) (QI shC idsC G A out) 0 0 A := by
  refine Met.ofW (cc := cX8_type) (maxL := 4) (ret := (some .int)) (by decide) rfl ?_
  intro p e s m args below meth c s₁ B hml hv
  obtain ⟨rfl, hW, hK⟩ := hv
  have F : CallFix p m c cX8_type 4 s _ wsX8_type RX8 := ⟨B.exec, B.bytes, hml, findClass_of_methodNamed B.named, atoms_spec (ws := wsX8_type) B.pre⟩
  have hr := B.returns
  have hlk := B.notSynchronized
  have hS : va_S A s.heap s.heap [] := va_S.rf
  have hl := lv_entry ([.ref (G.2.2 0 0), .long a0, .int a1]) (n := 4) (Nat.le_of_ble_eq_true rfl)
  rw [lg_entry_eq]
  generalize (lg_sl ([.ref (G.2.2 0 0), .long a0, .int a1]) ++ List.replicate (4 - (lg_sl ([.ref (G.2.2 0 0), .long a0, .int a1])).length) Slot.unset).toArray = ls at hl ⊢
  have hl : lv_has ls 4 [(0, .ref (G.2.2 0 0)), (1, .long a0), (3, .int a1)] := hl
  unfold f_X8_type at h
  refine lv_iload_n F.1 F.2.1 dX8_type_0 rfl (lv_at hl 2 rfl) ?_
  refine lv_iconst (v := 1) F.1 F.2.1 dX8_type_1 (by decide) ?_
  refine lv_icmp_lt (tgt := 11) F.1 F.2.1 dX8_type_2 (by decide) (fun c_1 => ?_) (fun c_1 => ?_)
  · have h := (if_pos c_1).symm.trans h
    exact w_X8_type_11 F hr hlk hK out  _ _ _ _  hW hS (lv_sub hl [] rfl) h
  · have h := (if_neg c_1).symm.trans h
    refine lv_iload_n F.1 F.2.1 dX8_type_5 rfl (lv_at hl 2 rfl) ?_
    refine lv_bipush (v := 8) F.1 F.2.1 dX8_type_6 (by decide) ?_
    refine lv_icmp_le (tgt := 13) F.1 F.2.1 dX8_type_8 (by decide) (fun c_2 => ?_) (fun c_2 => ?_)
    · have h := (if_pos c_2).symm.trans h
      refine lv_aload_n F.1 F.2.1 dX8_type_13 rfl (lv_at hl 0 rfl) ?_
      refine rw_get (q0 := 0) F hK hW idC_0 rfl rfl in_X8_type_X8 2 (by decide) lk_X8_type_26 rfl dX8_type_14 ?_
      refine rw_get (q0 := 3) F hK hW idC_3 rfl rfl in_X8_type_X6 1 (by decide) lk_X8_type_117 rfl dX8_type_17 ?_
      refine lv_iload_n F.1 F.2.1 dX8_type_20 rfl (lv_at hl 2 rfl) ?_
      refine lv_iadd F.1 F.2.1 dX8_type_21 ?_
      refine lv_bipush (v := 60) F.1 F.2.1 dX8_type_22 (by decide) ?_
      refine lv_icmp_le (tgt := 30) F.1 F.2.1 dX8_type_24 (by decide) (fun c_3 => ?_) (fun c_3 => ?_)
      · have h := (if_pos c_3).symm.trans h
        refine lv_aload_n F.1 F.2.1 dX8_type_30 rfl (lv_at hl 0 rfl) ?_
        refine rw_get (q0 := 0) F hK hW idC_0 rfl rfl in_X8_type_X8 2 (by decide) lk_X8_type_26 rfl dX8_type_31 ?_
        refine lv_lload_n F.1 F.2.1 dX8_type_34 rfl (lv_at hl 1 rfl) ?_
        refine lv_iload_n F.1 F.2.1 dX8_type_35 rfl (lv_at hl 2 rfl) ?_
        obtain ⟨r_5, S_6, hq_4, h⟩ := bi_some h
        refine rw_vi F hK hW hS [.long a0, .int a1] (rest := []) (c_X6_append l G A a0 a1 S (r_5, S_6) hq_4) (cwV 2 F.2.2.2.2 gX8_type_X6_append rfl rfl rfl (by decide +kernel) ⟨Nat.le_of_ble_eq_true rfl, Nat.le_of_ble_eq_true rfl⟩) (rw_recv (q0 := 3) hK hW idC_3 rfl rfl) rfl hl.1 rfl (Nat.le_of_ble_eq_true rfl) dX8_type_36 (fun H locs hW hS => ?_)
        exact rw_ret F hr hlk hK hW hS h dX8_type_39
      · have h := (if_neg c_3).symm.trans h
        refine lv_bipush (v := -3) F.1 F.2.1 dX8_type_27 (by decide) ?_
        exact rw_ret F hr hlk hK hW hS h dX8_type_29
    · have h := (if_neg c_2).symm.trans h
      exact w_X8_type_11 F hr hlk hK out  _ _ _ _  hW hS (lv_sub hl [] rfl) h
/-! CellCover$Tape.skipBlanks()V -/
abbrev rm_X6_skipBlanks : Room := { frames := 0, cells := 0, slots := 0, locals := 0 }
theorem in_X6_skipBlanks_X6 : ∀ w ∈ wsX60, w ∈ wsX6_skipBlanks := by decide +kernel
theorem lk_X6_skipBlanks_19 : Cond.fieldLink RX6 19 "CellCover$Tape" "place" "I" ∈ wsX6_skipBlanks := by decide +kernel
theorem lk_X6_skipBlanks_15 : Cond.fieldLink RX6 15 "CellCover$Tape" "length" "I" ∈ wsX6_skipBlanks := by decide +kernel
theorem lk_X6_skipBlanks_9 : Cond.fieldLink RX6 9 "CellCover$Tape" "bytes" "[I" ∈ wsX6_skipBlanks := by decide +kernel
set_option maxHeartbeats 4000000 in
set_option maxRecDepth 100000 in
theorem w_X6_skipBlanks_0 {p : Program} {l : Launch} {e : Env} {s : State} {m : MethodId} {args : Array Value} {below : List Frame} {meth : Method} {c : Code} {G : GT} {A : Nat → Prop} (F : CallFix p m c cX6_skipBlanks 1 s args wsX6_skipBlanks RX6) (hr : meth.sig.returnType = none) (hlk : meth.locks = false) (hK : va_K G.1 vwCl (tyl G) s) (out : St) : ∀ n : Nat, ∀ (S : St) (H : Heap) (locs : List Loc) (ls : Array Slot), Wd shC idsC G A S H → va_S A s.heap H locs → lv_has ls 1 [(0, .ref (G.2.2 3 0))] → l_X6_skipBlanks_0 n S = some out → W p l e rm_X6_skipBlanks s m args below meth c H locs 0 0 (MQ below (QV shC idsC G A out) args s 0 0 A) (F0 m 0 ls []) := by
  intro n
  induction n with
  | zero =>
    intro S H locs ls hW hS hl h
    cases h
  | succ n Kb =>
    generalize hkb : l_X6_skipBlanks_0 n = kb at Kb
    intro S H locs ls hW hS hl h
    rw [show l_X6_skipBlanks_0 (n + 1) = b_X6_skipBlanks_0 (l_X6_skipBlanks_0 n) from rfl, hkb] at h
    unfold b_X6_skipBlanks_0 at h
    refine lv_aload_n F.1 F.2.1 dX6_skipBlanks_0 rfl (lv_at hl 0 rfl) ?_
    refine rw_get (q0 := 3) F hK hW idC_3 rfl rfl in_X6_skipBlanks_X6 2 (by decide) lk_X6_skipBlanks_19 rfl dX6_skipBlanks_1 ?_
    refine lv_aload_n F.1 F.2.1 dX6_skipBlanks_4 rfl (lv_at hl 0 rfl) ?_
    refine rw_get (q0 := 3) F hK hW idC_3 rfl rfl in_X6_skipBlanks_X6 1 (by decide) lk_X6_skipBlanks_15 rfl dX6_skipBlanks_5 ?_
    refine lv_icmp_ge (tgt := 38) F.1 F.2.1 dX6_skipBlanks_8 (by decide) (fun c_1 => ?_) (fun c_1 => ?_)
    · have h := (if_pos c_1).symm.trans h
      exact rw_retv F hr hlk hK hW hS h dX6_skipBlanks_38
    · have h := (if_neg c_1).symm.trans h
      refine lv_aload_n F.1 F.2.1 dX6_skipBlanks_11 rfl (lv_at hl 0 rfl) ?_
      refine rw_get (q0 := 3) F hK hW idC_3 rfl rfl in_X6_skipBlanks_X6 0 (by decide) lk_X6_skipBlanks_9 rfl dX6_skipBlanks_12 ?_
      refine lv_aload_n F.1 F.2.1 dX6_skipBlanks_15 rfl (lv_at hl 0 rfl) ?_
      refine rw_get (q0 := 3) F hK hW idC_3 rfl rfl in_X6_skipBlanks_X6 2 (by decide) lk_X6_skipBlanks_19 rfl dX6_skipBlanks_16 ?_
      obtain ⟨b_2, h⟩ := gd_some h
      refine rw_iald (q0 := 43) F hK hW idC_23 (fun _ => rfl) (ix_in b_2) dX6_skipBlanks_19 ?_
      refine lv_topi (fun v_3 ev_3 => ?_)
      have h := lt_n ev_3 h
      refine lv_bipush (v := 32) F.1 F.2.1 dX6_skipBlanks_20 (by decide) ?_
      refine lv_icmp_ne (tgt := 38) F.1 F.2.1 dX6_skipBlanks_22 (by decide) (fun c_4 => ?_) (fun c_4 => ?_)
      · have h := (if_neg c_4).symm.trans h
        exact rw_retv F hr hlk hK hW hS h dX6_skipBlanks_38
      · have h := (if_pos c_4).symm.trans h
        refine lv_aload_n F.1 F.2.1 dX6_skipBlanks_25 rfl (lv_at hl 0 rfl) ?_
        refine lv_dup F.1 F.2.1 dX6_skipBlanks_26 rfl ?_
        refine rw_get (q0 := 3) F hK hW idC_3 rfl rfl in_X6_skipBlanks_X6 2 (by decide) lk_X6_skipBlanks_19 rfl dX6_skipBlanks_27 ?_
        refine lv_iconst (v := 1) F.1 F.2.1 dX6_skipBlanks_30 (by decide) ?_
        refine lv_iadd F.1 F.2.1 dX6_skipBlanks_31 ?_
        refine rw_put ndC (q0 := 3) (x := (S 3 0 2) + 1) F hK hW hS idC_3 rfl rfl in_X6_skipBlanks_X6 tyX6 tyX6_ok nmX6 2 (by decide) lk_X6_skipBlanks_19 rfl (ty := .int) (by decide +kernel) rfl rfl (Nat.le_of_ble_eq_true rfl) rfl dX6_skipBlanks_32 (fun H locs S_5 eS_5 hW hS => ?_)
        have h := lt_n eS_5 h
        refine lv_goto (tgt := 0) F.1 F.2.1 dX6_skipBlanks_35 (by decide) ?_
        exact Kb _ _ _ _  hW hS hl h
set_option maxHeartbeats 4000000 in
set_option maxRecDepth 100000 in
theorem c_X6_skipBlanks (l : Launch) (G : GT) (A : Nat → Prop) (S : St) (out : St) (h : f_X6_skipBlanks S = some out) : Met l yX6_skipBlanks wsX6_skipBlanks rm_X6_skipBlanks (va_Pc [.ref (G.2.2 3 0)] (WD shC idsC G A S)) (QV shC idsC G A out) 0 0 A := by
  refine Met.ofW (cc := cX6_skipBlanks) (maxL := 1) (ret := none) (by decide) rfl ?_
  intro p e s m args below meth c s₁ B hml hv
  obtain ⟨rfl, hW, hK⟩ := hv
  have F : CallFix p m c cX6_skipBlanks 1 s _ wsX6_skipBlanks RX6 := ⟨B.exec, B.bytes, hml, findClass_of_methodNamed B.named, atoms_spec (ws := wsX6_skipBlanks) B.pre⟩
  have hr := B.returns
  have hlk := B.notSynchronized
  have hS : va_S A s.heap s.heap [] := va_S.rf
  have hl := lv_entry ([.ref (G.2.2 3 0)]) (n := 1) (Nat.le_of_ble_eq_true rfl)
  rw [lg_entry_eq]
  generalize (lg_sl ([.ref (G.2.2 3 0)]) ++ List.replicate (1 - (lg_sl ([.ref (G.2.2 3 0)])).length) Slot.unset).toArray = ls at hl ⊢
  have hl : lv_has ls 1 [(0, .ref (G.2.2 3 0))] := hl
  unfold f_X6_skipBlanks at h
  refine w_X6_skipBlanks_0 F hr hlk hK out   5000 _ _ _ _  hW hS hl h
/-! CellCover$Tape.isAtDigit()Z -/
abbrev rm_X6_isAtDigit : Room := { frames := 0, cells := 0, slots := 0, locals := 0 }
theorem in_X6_isAtDigit_X6 : ∀ w ∈ wsX60, w ∈ wsX6_isAtDigit := by decide +kernel
theorem lk_X6_isAtDigit_19 : Cond.fieldLink RX6 19 "CellCover$Tape" "place" "I" ∈ wsX6_isAtDigit := by decide +kernel
theorem lk_X6_isAtDigit_15 : Cond.fieldLink RX6 15 "CellCover$Tape" "length" "I" ∈ wsX6_isAtDigit := by decide +kernel
theorem lk_X6_isAtDigit_9 : Cond.fieldLink RX6 9 "CellCover$Tape" "bytes" "[I" ∈ wsX6_isAtDigit := by decide +kernel
set_option maxHeartbeats 4000000 in
set_option maxRecDepth 100000 in
theorem w_X6_isAtDigit_44 {p : Program} {l : Launch} {e : Env} {s : State} {m : MethodId} {args : Array Value} {below : List Frame} {meth : Method} {c : Code} {G : GT} {A : Nat → Prop} (F : CallFix p m c cX6_isAtDigit 1 s args wsX6_isAtDigit RX6) (hr : meth.sig.returnType = (some .boolean)) (hlk : meth.locks = false) (hK : va_K G.1 vwCl (tyl G) s) (out : Int32 × St) : ∀ (S : St) (y0 : Int32) (H : Heap) (locs : List Loc) (ls : Array Slot), Wd shC idsC G A S H → va_S A s.heap H locs → lv_has ls 1 [] → j_X6_isAtDigit_44 S y0 = some out → W p l e rm_X6_isAtDigit s m args below meth c H locs 0 0 (MQ below (QI shC idsC G A out) args s 0 0 A) (F0 m 44 ls [.int y0]) := by
  intro S y0 H locs ls hW hS hl h
  unfold j_X6_isAtDigit_44 at h
  obtain ⟨b_2, h⟩ := gd_some h
  exact rw_retz F hr hlk hK hW hS b_2 h dX6_isAtDigit_44
set_option maxHeartbeats 4000000 in
set_option maxRecDepth 100000 in
theorem w_X6_isAtDigit_43 {p : Program} {l : Launch} {e : Env} {s : State} {m : MethodId} {args : Array Value} {below : List Frame} {meth : Method} {c : Code} {G : GT} {A : Nat → Prop} (F : CallFix p m c cX6_isAtDigit 1 s args wsX6_isAtDigit RX6) (hr : meth.sig.returnType = (some .boolean)) (hlk : meth.locks = false) (hK : va_K G.1 vwCl (tyl G) s) (out : Int32 × St) : ∀ (S : St) (H : Heap) (locs : List Loc) (ls : Array Slot), Wd shC idsC G A S H → va_S A s.heap H locs → lv_has ls 1 [] → j_X6_isAtDigit_43 S = some out → W p l e rm_X6_isAtDigit s m args below meth c H locs 0 0 (MQ below (QI shC idsC G A out) args s 0 0 A) (F0 m 43 ls []) := by
  intro S H locs ls hW hS hl h
  unfold j_X6_isAtDigit_43 at h
  refine lv_iconst (v := 0) F.1 F.2.1 dX6_isAtDigit_43 (by decide) ?_
  exact w_X6_isAtDigit_44 F hr hlk hK out  _ _ _ _ _  hW hS hl h
set_option maxHeartbeats 4000000 in
set_option maxRecDepth 100000 in
theorem c_X6_isAtDigit (l : Launch) (G : GT) (A : Nat → Prop) (S : St) (out : Int32 × St) (h : f_X6_isAtDigit S = some out) : Met l yX6_isAtDigit wsX6_isAtDigit rm_X6_isAtDigit (va_Pc [.ref (G.2.2 3 0)] (WD shC idsC G A S)) (QI shC idsC G A out) 0 0 A := by
  refine Met.ofW (cc := cX6_isAtDigit) (maxL := 1) (ret := (some .boolean)) (by decide) rfl ?_
  intro p e s m args below meth c s₁ B hml hv
  obtain ⟨rfl, hW, hK⟩ := hv
  have F : CallFix p m c cX6_isAtDigit 1 s _ wsX6_isAtDigit RX6 := ⟨B.exec, B.bytes, hml, findClass_of_methodNamed B.named, atoms_spec (ws := wsX6_isAtDigit) B.pre⟩
  have hr := B.returns
  have hlk := B.notSynchronized
  have hS : va_S A s.heap s.heap [] := va_S.rf
  have hl := lv_entry ([.ref (G.2.2 3 0)]) (n := 1) (Nat.le_of_ble_eq_true rfl)
  rw [lg_entry_eq]
  generalize (lg_sl ([.ref (G.2.2 3 0)]) ++ List.replicate (1 - (lg_sl ([.ref (G.2.2 3 0)])).length) Slot.unset).toArray = ls at hl ⊢
  have hl : lv_has ls 1 [(0, .ref (G.2.2 3 0))] := hl
  unfold f_X6_isAtDigit at h
  refine lv_aload_n F.1 F.2.1 dX6_isAtDigit_0 rfl (lv_at hl 0 rfl) ?_
  refine rw_get (q0 := 3) F hK hW idC_3 rfl rfl in_X6_isAtDigit_X6 2 (by decide) lk_X6_isAtDigit_19 rfl dX6_isAtDigit_1 ?_
  refine lv_aload_n F.1 F.2.1 dX6_isAtDigit_4 rfl (lv_at hl 0 rfl) ?_
  refine rw_get (q0 := 3) F hK hW idC_3 rfl rfl in_X6_isAtDigit_X6 1 (by decide) lk_X6_isAtDigit_15 rfl dX6_isAtDigit_5 ?_
  refine lv_icmp_ge (tgt := 43) F.1 F.2.1 dX6_isAtDigit_8 (by decide) (fun c_1 => ?_) (fun c_1 => ?_)
  · have h := (if_pos c_1).symm.trans h
    exact w_X6_isAtDigit_43 F hr hlk hK out  _ _ _ _  hW hS (lv_sub hl [] rfl) h
  · have h := (if_neg c_1).symm.trans h
    refine lv_aload_n F.1 F.2.1 dX6_isAtDigit_11 rfl (lv_at hl 0 rfl) ?_
    refine rw_get (q0 := 3) F hK hW idC_3 rfl rfl in_X6_isAtDigit_X6 0 (by decide) lk_X6_isAtDigit_9 rfl dX6_isAtDigit_12 ?_
    refine lv_aload_n F.1 F.2.1 dX6_isAtDigit_15 rfl (lv_at hl 0 rfl) ?_
    refine rw_get (q0 := 3) F hK hW idC_3 rfl rfl in_X6_isAtDigit_X6 2 (by decide) lk_X6_isAtDigit_19 rfl dX6_isAtDigit_16 ?_
    obtain ⟨b_3, h⟩ := gd_some h
    refine rw_iald (q0 := 43) F hK hW idC_23 (fun _ => rfl) (ix_in b_3) dX6_isAtDigit_19 ?_
    refine lv_topi (fun v_4 ev_4 => ?_)
    have h := lt_n ev_4 h
    refine lv_bipush (v := 48) F.1 F.2.1 dX6_isAtDigit_20 (by decide) ?_
    refine lv_icmp_lt (tgt := 43) F.1 F.2.1 dX6_isAtDigit_22 (by decide) (fun c_5 => ?_) (fun c_5 => ?_)
    · have h := (if_pos c_5).symm.trans h
      exact w_X6_isAtDigit_43 F hr hlk hK out  _ _ _ _  hW hS (lv_sub hl [] rfl) h
    · have h := (if_neg c_5).symm.trans h
      refine lv_aload_n F.1 F.2.1 dX6_isAtDigit_25 rfl (lv_at hl 0 rfl) ?_
      refine rw_get (q0 := 3) F hK hW idC_3 rfl rfl in_X6_isAtDigit_X6 0 (by decide) lk_X6_isAtDigit_9 rfl dX6_isAtDigit_26 ?_
      refine lv_aload_n F.1 F.2.1 dX6_isAtDigit_29 rfl (lv_at hl 0 rfl) ?_
      refine rw_get (q0 := 3) F hK hW idC_3 rfl rfl in_X6_isAtDigit_X6 2 (by decide) lk_X6_isAtDigit_19 rfl dX6_isAtDigit_30 ?_
      obtain ⟨b_6, h⟩ := gd_some h
      refine rw_iald (q0 := 43) F hK hW idC_23 (fun _ => rfl) (ix_in b_6) dX6_isAtDigit_33 ?_
      refine lv_topi (fun v_7 ev_7 => ?_)
      have h := lt_n ev_7 h
      refine lv_bipush (v := 57) F.1 F.2.1 dX6_isAtDigit_34 (by decide) ?_
      refine lv_icmp_gt (tgt := 43) F.1 F.2.1 dX6_isAtDigit_36 (by decide) (fun c_8 => ?_) (fun c_8 => ?_)
      · have h := (if_pos c_8).symm.trans h
        exact w_X6_isAtDigit_43 F hr hlk hK out  _ _ _ _  hW hS (lv_sub hl [] rfl) h
      · have h := (if_neg c_8).symm.trans h
        refine lv_iconst (v := 1) F.1 F.2.1 dX6_isAtDigit_39 (by decide) ?_
        refine lv_goto (tgt := 44) F.1 F.2.1 dX6_isAtDigit_40 (by decide) ?_
        exact w_X6_isAtDigit_44 F hr hlk hK out  _ _ _ _ _  hW hS (lv_sub hl [] rfl) h
/-! CellCover$Tape.failAt(II)Z -/
abbrev rm_X6_failAt : Room := { frames := 0, cells := 0, slots := 0, locals := 0 }
theorem in_X6_failAt_X6 : ∀ w ∈ wsX60, w ∈ wsX6_failAt := by decide +kernel
theorem lk_X6_failAt_19 : Cond.fieldLink RX6 19 "CellCover$Tape" "place" "I" ∈ wsX6_failAt := by decide +kernel
theorem lk_X6_failAt_22 : Cond.fieldLink RX6 22 "CellCover$Tape" "fault" "I" ∈ wsX6_failAt := by decide +kernel
set_option maxHeartbeats 4000000 in
set_option maxRecDepth 100000 in
theorem c_X6_failAt (l : Launch) (G : GT) (A : Nat → Prop) (a0 : Int32) (a1 : Int32) (S : St) (out : Int32 × St) (h : f_X6_failAt a0 a1 S = some out) : Met l yX6_failAt wsX6_failAt rm_X6_failAt (va_Pc [.ref (G.2.2 3 0), .int a0, .int a1] (WD shC idsC G A S)) (QI shC idsC G A out) 0 0 A := by
  refine Met.ofW (cc := cX6_failAt) (maxL := 3) (ret := (some .boolean)) (by decide) rfl ?_
  intro p e s m args below meth c s₁ B hml hv
  obtain ⟨rfl, hW, hK⟩ := hv
  have F : CallFix p m c cX6_failAt 3 s _ wsX6_failAt RX6 := ⟨B.exec, B.bytes, hml, findClass_of_methodNamed B.named, atoms_spec (ws := wsX6_failAt) B.pre⟩
  have hr := B.returns
  have hlk := B.notSynchronized
  have hS : va_S A s.heap s.heap [] := va_S.rf
  have hl := lv_entry ([.ref (G.2.2 3 0), .int a0, .int a1]) (n := 3) (Nat.le_of_ble_eq_true rfl)
  rw [lg_entry_eq]
  generalize (lg_sl ([.ref (G.2.2 3 0), .int a0, .int a1]) ++ List.replicate (3 - (lg_sl ([.ref (G.2.2 3 0), .int a0, .int a1])).length) Slot.unset).toArray = ls at hl ⊢
  have hl : lv_has ls 3 [(0, .ref (G.2.2 3 0)), (1, .int a0), (2, .int a1)] := hl
  unfold f_X6_failAt at h
  refine lv_aload_n F.1 F.2.1 dX6_failAt_0 rfl (lv_at hl 0 rfl) ?_
  refine lv_iload_n F.1 F.2.1 dX6_failAt_1 rfl (lv_at hl 1 rfl) ?_
  refine rw_put ndC (q0 := 3) (x := a0) F hK hW hS idC_3 rfl rfl in_X6_failAt_X6 tyX6 tyX6_ok nmX6 2 (by decide) lk_X6_failAt_19 rfl (ty := .int) (by decide +kernel) rfl rfl (Nat.le_of_ble_eq_true rfl) rfl dX6_failAt_2 (fun H locs S_1 eS_1 hW hS => ?_)
  have h := lt_n eS_1 h
  refine lv_aload_n F.1 F.2.1 dX6_failAt_5 rfl (lv_at hl 0 rfl) ?_
  refine lv_iload_n F.1 F.2.1 dX6_failAt_6 rfl (lv_at hl 2 rfl) ?_
  refine rw_put ndC (q0 := 3) (x := a1) F hK hW hS idC_3 rfl rfl in_X6_failAt_X6 tyX6 tyX6_ok nmX6 3 (by decide) lk_X6_failAt_22 rfl (ty := .int) (by decide +kernel) rfl rfl (Nat.le_of_ble_eq_true rfl) rfl dX6_failAt_7 (fun H locs S_2 eS_2 hW hS => ?_)
  have h := lt_n eS_2 h
  refine lv_iconst (v := 0) F.1 F.2.1 dX6_failAt_10 (by decide) ?_
  exact rw_retz F hr hlk hK hW hS (by decide) h dX6_failAt_11
