/-! CellCover$Tape.readNumber(II)I -/
abbrev rm_X6_readNumber : Room := { frames := 1, cells := 0, slots := 0, locals := 22 }
theorem in_X6_readNumber_X6 : ∀ w ∈ wsX60, w ∈ wsX6_readNumber := by decide +kernel
theorem lk_X6_readNumber_19 : Cond.fieldLink RX6 19 "CellCover$Tape" "place" "I" ∈ wsX6_readNumber := by decide +kernel
theorem lk_X6_readNumber_9 : Cond.fieldLink RX6 9 "CellCover$Tape" "bytes" "[I" ∈ wsX6_readNumber := by decide +kernel
set_option maxHeartbeats 4000000 in
set_option maxRecDepth 100000 in
theorem w_X6_readNumber_12 {p : Program} {l : Launch} {e : Env} {s : State} {m : MethodId} {args : Array Value} {below : List Frame} {meth : Method} {c : Code} {G : GT} {A : Nat → Prop} (F : CallFix p m c cX6_readNumber 5 s args wsX6_readNumber RX6) (hr : meth.sig.returnType = (some .int)) (hlk : meth.locks = false) (hK : va_K G.1 vwCl (tyl G) s) (out : Int32 × St) (k62 : St → Int32 → Int32 → Int32 → Int32 → Option (Int32 × St)) (K62 : ∀ (S : St) (x1 : Int32) (x2 : Int32) (x3 : Int32) (x4 : Int32) (H : Heap) (locs : List Loc) (ls : Array Slot), Wd shC idsC G A S H → va_S A s.heap H locs → lv_has ls 5 [(0, .ref (G.2.2 3 0)), (1, .int x1), (2, .int x2), (3, .int x3), (4, .int x4)] → k62 S x1 x2 x3 x4 = some out → W p l e rm_X6_readNumber s m args below meth c H locs 0 0 (MQ below (QI shC idsC G A out) args s 0 0 A) (F0 m 62 ls [])) : ∀ n : Nat, ∀ (S : St) (x1 : Int32) (x2 : Int32) (x3 : Int32) (x4 : Int32) (H : Heap) (locs : List Loc) (ls : Array Slot), Wd shC idsC G A S H → va_S A s.heap H locs → lv_has ls 5 [(0, .ref (G.2.2 3 0)), (1, .int x1), (2, .int x2), (3, .int x3), (4, .int x4)] → l_X6_readNumber_12 k62 n S x1 x2 x3 x4 = some out → W p l e rm_X6_readNumber s m args below meth c H locs 0 0 (MQ below (QI shC idsC G A out) args s 0 0 A) (F0 m 12 ls []) := by
  intro n
  induction n with
  | zero =>
    intro S x1 x2 x3 x4 H locs ls hW hS hl h
    cases h
  | succ n Kb =>
    generalize hkb : l_X6_readNumber_12 k62 n = kb at Kb
    intro S x1 x2 x3 x4 H locs ls hW hS hl h
    rw [show l_X6_readNumber_12 k62 (n + 1) = b_X6_readNumber_12 (l_X6_readNumber_12 k62 n) k62 from rfl, hkb] at h
    unfold b_X6_readNumber_12 at h
    refine lv_aload_n F.1 F.2.1 dX6_readNumber_12 rfl (lv_at hl 0 rfl) ?_
    refine rw_get (q0 := 3) F hK hW idC_3 rfl rfl in_X6_readNumber_X6 2 (by decide) lk_X6_readNumber_19 rfl dX6_readNumber_13 ?_
    refine lv_iload_n F.1 F.2.1 dX6_readNumber_16 rfl (lv_at hl 3 rfl) ?_
    refine lv_isub F.1 F.2.1 dX6_readNumber_17 ?_
    refine lv_iconst (v := 3) F.1 F.2.1 dX6_readNumber_18 (by decide) ?_
    refine lv_icmp_ge (tgt := 62) F.1 F.2.1 dX6_readNumber_19 (by decide) (fun c_4 => ?_) (fun c_4 => ?_)
    · have h := (if_pos c_4).symm.trans h
      exact K62 _ _ _ _ _ _ _ _  hW hS hl h
    · have h := (if_neg c_4).symm.trans h
      refine lv_aload_n F.1 F.2.1 dX6_readNumber_22 rfl (lv_at hl 0 rfl) ?_
      obtain ⟨r_6, S_7, hq_5, h⟩ := bi_some h
      refine rw_vi F hK hW hS [] (rest := []) (c_X6_isAtDigit l G A  S (r_6, S_7) hq_5) (cwV 0 F.2.2.2.2 gX6_readNumber_X6_isAtDigit rfl rfl rfl (by decide +kernel) ⟨Nat.le_of_ble_eq_true rfl, Nat.le_of_ble_eq_true rfl⟩) (rw_recv (q0 := 3) hK hW idC_3 rfl rfl) rfl hl.1 rfl (Nat.le_of_ble_eq_true rfl) dX6_readNumber_23 (fun H locs hW hS => ?_)
      refine lv_if_eq (tgt := 62) F.1 F.2.1 dX6_readNumber_26 (by decide) (fun c_8 => ?_) (fun c_8 => ?_)
      · have h := (if_pos c_8).symm.trans h
        exact K62 _ _ _ _ _ _ _ _  hW hS hl h
      · have h := (if_neg c_8).symm.trans h
        refine lv_bipush (v := 10) F.1 F.2.1 dX6_readNumber_29 (by decide) ?_
        refine lv_iload F.1 F.2.1 dX6_readNumber_31 (lv_at hl 4 rfl) ?_
        refine lv_imul F.1 F.2.1 dX6_readNumber_33 ?_
        refine lv_aload_n F.1 F.2.1 dX6_readNumber_34 rfl (lv_at hl 0 rfl) ?_
        refine rw_get (q0 := 3) F hK hW idC_3 rfl rfl in_X6_readNumber_X6 0 (by decide) lk_X6_readNumber_9 rfl dX6_readNumber_35 ?_
        refine lv_aload_n F.1 F.2.1 dX6_readNumber_38 rfl (lv_at hl 0 rfl) ?_
        refine rw_get (q0 := 3) F hK hW idC_3 rfl rfl in_X6_readNumber_X6 2 (by decide) lk_X6_readNumber_19 rfl dX6_readNumber_39 ?_
        obtain ⟨b_9, h⟩ := gd_some h
        refine rw_iald (q0 := 43) F hK hW idC_23 (fun _ => rfl) (ix_in b_9) dX6_readNumber_42 ?_
        refine lv_topi (fun v_10 ev_10 => ?_)
        have h := lt_n ev_10 h
        refine lv_iadd F.1 F.2.1 dX6_readNumber_43 ?_
        refine lv_bipush (v := 48) F.1 F.2.1 dX6_readNumber_44 (by decide) ?_
        refine lv_isub F.1 F.2.1 dX6_readNumber_46 ?_
        refine lv_topi (fun v_11 ev_11 => ?_)
        have h := lt_n ev_11 h
        refine lv_istore (lv' := [(4, .int v_11), (0, .ref (G.2.2 3 0)), (1, .int x1), (2, .int x2), (3, .int x3)]) F.1 F.2.1 dX6_readNumber_47 hl (by decide) rfl (fun ls hl => ?_)
        refine lv_aload_n F.1 F.2.1 dX6_readNumber_49 rfl (lv_at hl 1 rfl) ?_
        refine lv_dup F.1 F.2.1 dX6_readNumber_50 rfl ?_
        refine rw_get (q0 := 3) F hK hW idC_3 rfl rfl in_X6_readNumber_X6 2 (by decide) lk_X6_readNumber_19 rfl dX6_readNumber_51 ?_
        refine lv_iconst (v := 1) F.1 F.2.1 dX6_readNumber_54 (by decide) ?_
        refine lv_iadd F.1 F.2.1 dX6_readNumber_55 ?_
        refine rw_put ndC (q0 := 3) (x := (S_7 3 0 2) + 1) F hK hW hS idC_3 rfl rfl in_X6_readNumber_X6 tyX6 tyX6_ok nmX6 2 (by decide) lk_X6_readNumber_19 rfl (ty := .int) (by decide +kernel) rfl rfl (Nat.le_of_ble_eq_true rfl) rfl dX6_readNumber_56 (fun H locs S_12 eS_12 hW hS => ?_)
        have h := lt_n eS_12 h
        refine lv_goto (tgt := 12) F.1 F.2.1 dX6_readNumber_59 (by decide) ?_
        exact Kb _ _ _ _ _ _ _ _  hW hS (lv_sub hl [1, 2, 3, 4, 0] rfl) h
set_option maxHeartbeats 4000000 in
set_option maxRecDepth 100000 in
theorem w_X6_readNumber_122 {p : Program} {l : Launch} {e : Env} {s : State} {m : MethodId} {args : Array Value} {below : List Frame} {meth : Method} {c : Code} {G : GT} {A : Nat → Prop} (F : CallFix p m c cX6_readNumber 5 s args wsX6_readNumber RX6) (hr : meth.sig.returnType = (some .int)) (hlk : meth.locks = false) (hK : va_K G.1 vwCl (tyl G) s) (out : Int32 × St) : ∀ (S : St) (x4 : Int32) (H : Heap) (locs : List Loc) (ls : Array Slot), Wd shC idsC G A S H → va_S A s.heap H locs → lv_has ls 5 [(4, .int x4)] → j_X6_readNumber_122 S x4 = some out → W p l e rm_X6_readNumber s m args below meth c H locs 0 0 (MQ below (QI shC idsC G A out) args s 0 0 A) (F0 m 122 ls []) := by
  intro S x4 H locs ls hW hS hl h
  unfold j_X6_readNumber_122 at h
  refine lv_iload F.1 F.2.1 dX6_readNumber_122 (lv_at hl 0 rfl) ?_
  exact rw_ret F hr hlk hK hW hS h dX6_readNumber_124
set_option maxHeartbeats 4000000 in
set_option maxRecDepth 100000 in
theorem w_X6_readNumber_95 {p : Program} {l : Launch} {e : Env} {s : State} {m : MethodId} {args : Array Value} {below : List Frame} {meth : Method} {c : Code} {G : GT} {A : Nat → Prop} (F : CallFix p m c cX6_readNumber 5 s args wsX6_readNumber RX6) (hr : meth.sig.returnType = (some .int)) (hlk : meth.locks = false) (hK : va_K G.1 vwCl (tyl G) s) (out : Int32 × St) : ∀ (S : St) (x3 : Int32) (x4 : Int32) (H : Heap) (locs : List Loc) (ls : Array Slot), Wd shC idsC G A S H → va_S A s.heap H locs → lv_has ls 5 [(0, .ref (G.2.2 3 0)), (3, .int x3), (4, .int x4)] → j_X6_readNumber_95 S x3 x4 = some out → W p l e rm_X6_readNumber s m args below meth c H locs 0 0 (MQ below (QI shC idsC G A out) args s 0 0 A) (F0 m 95 ls []) := by
  intro S x3 x4 H locs ls hW hS hl h
  unfold j_X6_readNumber_95 at h
  refine lv_aload_n F.1 F.2.1 dX6_readNumber_95 rfl (lv_at hl 0 rfl) ?_
  refine lv_iload_n F.1 F.2.1 dX6_readNumber_96 rfl (lv_at hl 1 rfl) ?_
  refine lv_iconst (v := 2) F.1 F.2.1 dX6_readNumber_97 (by decide) ?_
  obtain ⟨r_16, S_17, hq_15, h⟩ := bi_some h
  refine rw_vi F hK hW hS [.int x3, .int 2] (rest := []) (c_X6_failAt l G A x3 2 S (r_16, S_17) hq_15) (cwV 2 F.2.2.2.2 gX6_readNumber_X6_failAt rfl rfl rfl (by decide +kernel) ⟨Nat.le_of_ble_eq_true rfl, Nat.le_of_ble_eq_true rfl⟩) (rw_recv (q0 := 3) hK hW idC_3 rfl rfl) rfl hl.1 rfl (Nat.le_of_ble_eq_true rfl) dX6_readNumber_98 (fun H locs hW hS => ?_)
  refine lv_pop F.1 F.2.1 dX6_readNumber_101 rfl ?_
  refine lv_goto (tgt := 122) F.1 F.2.1 dX6_readNumber_102 (by decide) ?_
  exact w_X6_readNumber_122 F hr hlk hK out  _ _ _ _ _  hW hS (lv_sub hl [2] rfl) h
set_option maxHeartbeats 4000000 in
set_option maxRecDepth 100000 in
theorem w_X6_readNumber_62 {p : Program} {l : Launch} {e : Env} {s : State} {m : MethodId} {args : Array Value} {below : List Frame} {meth : Method} {c : Code} {G : GT} {A : Nat → Prop} (F : CallFix p m c cX6_readNumber 5 s args wsX6_readNumber RX6) (hr : meth.sig.returnType = (some .int)) (hlk : meth.locks = false) (hK : va_K G.1 vwCl (tyl G) s) (out : Int32 × St) : ∀ (S : St) (x1 : Int32) (x2 : Int32) (x3 : Int32) (x4 : Int32) (H : Heap) (locs : List Loc) (ls : Array Slot), Wd shC idsC G A S H → va_S A s.heap H locs → lv_has ls 5 [(0, .ref (G.2.2 3 0)), (1, .int x1), (2, .int x2), (3, .int x3), (4, .int x4)] → j_X6_readNumber_62 S x1 x2 x3 x4 = some out → W p l e rm_X6_readNumber s m args below meth c H locs 0 0 (MQ below (QI shC idsC G A out) args s 0 0 A) (F0 m 62 ls []) := by
  intro S x1 x2 x3 x4 H locs ls hW hS hl h
  unfold j_X6_readNumber_62 at h
  refine lv_aload_n F.1 F.2.1 dX6_readNumber_62 rfl (lv_at hl 0 rfl) ?_
  refine rw_get (q0 := 3) F hK hW idC_3 rfl rfl in_X6_readNumber_X6 2 (by decide) lk_X6_readNumber_19 rfl dX6_readNumber_63 ?_
  refine lv_iload_n F.1 F.2.1 dX6_readNumber_66 rfl (lv_at hl 3 rfl) ?_
  refine lv_icmp_ne (tgt := 83) F.1 F.2.1 dX6_readNumber_67 (by decide) (fun c_13 => ?_) (fun c_13 => ?_)
  · have h := (if_neg c_13).symm.trans h
    refine lv_iload F.1 F.2.1 dX6_readNumber_83 (lv_at hl 4 rfl) ?_
    refine lv_iload_n F.1 F.2.1 dX6_readNumber_85 rfl (lv_at hl 1 rfl) ?_
    refine lv_icmp_lt (tgt := 95) F.1 F.2.1 dX6_readNumber_86 (by decide) (fun c_14 => ?_) (fun c_14 => ?_)
    · have h := (if_pos c_14).symm.trans h
      exact w_X6_readNumber_95 F hr hlk hK out  _ _ _ _ _ _  hW hS (lv_sub hl [0, 3, 4] rfl) h
    · have h := (if_neg c_14).symm.trans h
      refine lv_iload F.1 F.2.1 dX6_readNumber_89 (lv_at hl 4 rfl) ?_
      refine lv_iload_n F.1 F.2.1 dX6_readNumber_91 rfl (lv_at hl 2 rfl) ?_
      refine lv_icmp_le (tgt := 105) F.1 F.2.1 dX6_readNumber_92 (by decide) (fun c_18 => ?_) (fun c_18 => ?_)
      · have h := (if_pos c_18).symm.trans h
        refine lv_aload_n F.1 F.2.1 dX6_readNumber_105 rfl (lv_at hl 0 rfl) ?_
        obtain ⟨r_20, S_21, hq_19, h⟩ := bi_some h
        refine rw_vi F hK hW hS [] (rest := []) (c_X6_isAtDigit l G A  S (r_20, S_21) hq_19) (cwV 0 F.2.2.2.2 gX6_readNumber_X6_isAtDigit rfl rfl rfl (by decide +kernel) ⟨Nat.le_of_ble_eq_true rfl, Nat.le_of_ble_eq_true rfl⟩) (rw_recv (q0 := 3) hK hW idC_3 rfl rfl) rfl hl.1 rfl (Nat.le_of_ble_eq_true rfl) dX6_readNumber_106 (fun H locs hW hS => ?_)
        refine lv_if_eq (tgt := 122) F.1 F.2.1 dX6_readNumber_109 (by decide) (fun c_22 => ?_) (fun c_22 => ?_)
        · have h := (if_pos c_22).symm.trans h
          exact w_X6_readNumber_122 F hr hlk hK out  _ _ _ _ _  hW hS (lv_sub hl [4] rfl) h
        · have h := (if_neg c_22).symm.trans h
          refine lv_aload_n F.1 F.2.1 dX6_readNumber_112 rfl (lv_at hl 0 rfl) ?_
          refine lv_aload_n F.1 F.2.1 dX6_readNumber_113 rfl (lv_at hl 0 rfl) ?_
          refine rw_get (q0 := 3) F hK hW idC_3 rfl rfl in_X6_readNumber_X6 2 (by decide) lk_X6_readNumber_19 rfl dX6_readNumber_114 ?_
          refine lv_iconst (v := 1) F.1 F.2.1 dX6_readNumber_117 (by decide) ?_
          obtain ⟨r_24, S_25, hq_23, h⟩ := bi_some h
          refine rw_vi F hK hW hS [.int (S_21 3 0 2), .int 1] (rest := []) (c_X6_failAt l G A (S_21 3 0 2) 1 S_21 (r_24, S_25) hq_23) (cwV 2 F.2.2.2.2 gX6_readNumber_X6_failAt rfl rfl rfl (by decide +kernel) ⟨Nat.le_of_ble_eq_true rfl, Nat.le_of_ble_eq_true rfl⟩) (rw_recv (q0 := 3) hK hW idC_3 rfl rfl) rfl hl.1 rfl (Nat.le_of_ble_eq_true rfl) dX6_readNumber_118 (fun H locs hW hS => ?_)
          refine lv_pop F.1 F.2.1 dX6_readNumber_121 rfl ?_
          exact w_X6_readNumber_122 F hr hlk hK out  _ _ _ _ _  hW hS (lv_sub hl [4] rfl) h
      · have h := (if_neg c_18).symm.trans h
        exact w_X6_readNumber_95 F hr hlk hK out  _ _ _ _ _ _  hW hS (lv_sub hl [0, 3, 4] rfl) h
  · have h := (if_pos c_13).symm.trans h
    refine lv_aload_n F.1 F.2.1 dX6_readNumber_70 rfl (lv_at hl 0 rfl) ?_
    refine lv_aload_n F.1 F.2.1 dX6_readNumber_71 rfl (lv_at hl 0 rfl) ?_
    refine rw_get (q0 := 3) F hK hW idC_3 rfl rfl in_X6_readNumber_X6 2 (by decide) lk_X6_readNumber_19 rfl dX6_readNumber_72 ?_
    refine lv_iconst (v := 1) F.1 F.2.1 dX6_readNumber_75 (by decide) ?_
    obtain ⟨r_27, S_28, hq_26, h⟩ := bi_some h
    refine rw_vi F hK hW hS [.int (S 3 0 2), .int 1] (rest := []) (c_X6_failAt l G A (S 3 0 2) 1 S (r_27, S_28) hq_26) (cwV 2 F.2.2.2.2 gX6_readNumber_X6_failAt rfl rfl rfl (by decide +kernel) ⟨Nat.le_of_ble_eq_true rfl, Nat.le_of_ble_eq_true rfl⟩) (rw_recv (q0 := 3) hK hW idC_3 rfl rfl) rfl hl.1 rfl (Nat.le_of_ble_eq_true rfl) dX6_readNumber_76 (fun H locs hW hS => ?_)
    refine lv_pop F.1 F.2.1 dX6_readNumber_79 rfl ?_
    refine lv_goto (tgt := 122) F.1 F.2.1 dX6_readNumber_80 (by decide) ?_
    exact w_X6_readNumber_122 F hr hlk hK out  _ _ _ _ _  hW hS (lv_sub hl [4] rfl) h
set_option maxHeartbeats 4000000 in
set_option maxRecDepth 100000 in
theorem c_X6_readNumber (l : Launch) (G : GT) (A : Nat → Prop) (a0 : Int32) (a1 : Int32) (S : St) (out : Int32 × St) (h : f_X6_readNumber a0 a1 S = some out) : Met l yX6_readNumber wsX6_readNumber rm_X6_readNumber (va_Pc [.ref (G.2.2 3 0), .int a0, .int a1] (WD shC idsC G A S)) (QI shC idsC G A out) 0 0 A := by
  refine Met.ofW (cc := cX6_readNumber) (maxL := 5) (ret := (some .int)) (by decide) rfl ?_
  intro p e s m args below meth c s₁ B hml hv
  obtain ⟨rfl, hW, hK⟩ := hv
  have F : CallFix p m c cX6_readNumber 5 s _ wsX6_readNumber RX6 := ⟨B.exec, B.bytes, hml, findClass_of_methodNamed B.named, atoms_spec (ws := wsX6_readNumber) B.pre⟩
  have hr := B.returns
  have hlk := B.notSynchronized
  have hS : va_S A s.heap s.heap [] := va_S.rf
  have hl := lv_entry ([.ref (G.2.2 3 0), .int a0, .int a1]) (n := 5) (Nat.le_of_ble_eq_true rfl)
  rw [lg_entry_eq]
  generalize (lg_sl ([.ref (G.2.2 3 0), .int a0, .int a1]) ++ List.replicate (5 - (lg_sl ([.ref (G.2.2 3 0), .int a0, .int a1])).length) Slot.unset).toArray = ls at hl ⊢
  have hl : lv_has ls 5 [(0, .ref (G.2.2 3 0)), (1, .int a0), (2, .int a1)] := hl
  unfold f_X6_readNumber at h
  refine lv_aload_n F.1 F.2.1 dX6_readNumber_0 rfl (lv_at hl 0 rfl) ?_
  obtain ⟨q_1, hq_1, h⟩ := bv_some h
  refine rw_vv F hK hW hS [] (rest := []) (c_X6_skipBlanks l G A  S q_1 hq_1) (cwV 0 F.2.2.2.2 gX6_readNumber_X6_skipBlanks rfl rfl rfl (by decide +kernel) ⟨Nat.le_of_ble_eq_true rfl, Nat.le_of_ble_eq_true rfl⟩) (rw_recv (q0 := 3) hK hW idC_3 rfl rfl) rfl hl.1 rfl (Nat.le_of_ble_eq_true rfl) dX6_readNumber_1 (fun H locs hW hS => ?_)
  refine lv_aload_n F.1 F.2.1 dX6_readNumber_4 rfl (lv_at hl 0 rfl) ?_
  refine rw_get (q0 := 3) F hK hW idC_3 rfl rfl in_X6_readNumber_X6 2 (by decide) lk_X6_readNumber_19 rfl dX6_readNumber_5 ?_
  refine lv_topi (fun v_3 ev_3 => ?_)
  have h := lt_n ev_3 h
  refine lv_istore_n (lv' := [(3, .int v_3), (0, .ref (G.2.2 3 0)), (1, .int a0), (2, .int a1)]) F.1 F.2.1 dX6_readNumber_8 rfl hl (by decide) rfl (fun ls hl => ?_)
  refine lv_iconst (v := 0) F.1 F.2.1 dX6_readNumber_9 (by decide) ?_
  refine lv_istore (lv' := [(4, .int 0), (3, .int v_3), (0, .ref (G.2.2 3 0)), (1, .int a0), (2, .int a1)]) F.1 F.2.1 dX6_readNumber_10 hl (by decide) rfl (fun ls hl => ?_)
  refine w_X6_readNumber_12 F hr hlk hK out _ ?_ 5000 _ _ _ _ _ _ _ _  hW hS (lv_sub hl [2, 3, 4, 1, 0] rfl) h
  · intro S x1 x2 x3 x4 H locs ls hW hS hl h
    exact w_X6_readNumber_62 F hr hlk hK out  _ _ _ _ _ _ _ _  hW hS hl h
/-! CellCover$Cell.clearTree()V -/
abbrev rm_X0_clearTree : Room := { frames := 0, cells := 0, slots := 0, locals := 0 }
theorem in_X0_clearTree_X0 : ∀ w ∈ wsX00, w ∈ wsX0_clearTree := by decide +kernel
theorem lk_X0_clearTree_15 : Cond.fieldLink RX0 15 "CellCover$Cell" "symbols" "I" ∈ wsX0_clearTree := by decide +kernel
theorem lk_X0_clearTree_19 : Cond.fieldLink RX0 19 "CellCover$Cell" "nands" "I" ∈ wsX0_clearTree := by decide +kernel
theorem lk_X0_clearTree_22 : Cond.fieldLink RX0 22 "CellCover$Cell" "pinBits" "I" ∈ wsX0_clearTree := by decide +kernel
set_option maxHeartbeats 4000000 in
set_option maxRecDepth 100000 in
theorem c_X0_clearTree (l : Launch) (G : GT) (A : Nat → Prop) (t : Nat) (ht : t < 20) (S : St) (out : St) (h : f_X0_clearTree t S = some out) : Met l yX0_clearTree wsX0_clearTree rm_X0_clearTree (va_Pc [.ref (G.2.2 8 t)] (WD shC idsC G A S)) (QV shC idsC G A out) 0 0 A := by
  refine Met.ofW (cc := cX0_clearTree) (maxL := 1) (ret := none) (by decide) rfl ?_
  intro p e s m args below meth c s₁ B hml hv
  obtain ⟨rfl, hW, hK⟩ := hv
  have F : CallFix p m c cX0_clearTree 1 s _ wsX0_clearTree RX0 := ⟨B.exec, B.bytes, hml, findClass_of_methodNamed B.named, atoms_spec (ws := wsX0_clearTree) B.pre⟩
  have hr := B.returns
  have hlk := B.notSynchronized
  have hS : va_S A s.heap s.heap [] := va_S.rf
  have hl := lv_entry ([.ref (G.2.2 8 t)]) (n := 1) (Nat.le_of_ble_eq_true rfl)
  rw [lg_entry_eq]
  generalize (lg_sl ([.ref (G.2.2 8 t)]) ++ List.replicate (1 - (lg_sl ([.ref (G.2.2 8 t)])).length) Slot.unset).toArray = ls at hl ⊢
  have hl : lv_has ls 1 [(0, .ref (G.2.2 8 t))] := hl
  unfold f_X0_clearTree at h
  refine lv_aload_n F.1 F.2.1 dX0_clearTree_0 rfl (lv_at hl 0 rfl) ?_
  refine lv_iconst (v := 0) F.1 F.2.1 dX0_clearTree_1 (by decide) ?_
  refine rw_put ndC (q0 := 9 + t) (x := 0) F hK hW hS (idC_8 _ ht) rfl rfl in_X0_clearTree_X0 tyX0 tyX0_ok nmX0 1 (by decide) lk_X0_clearTree_15 rfl (ty := .int) (by decide +kernel) rfl rfl (Nat.le_of_ble_eq_true rfl) rfl dX0_clearTree_2 (fun H locs S_1 eS_1 hW hS => ?_)
  have h := lt_n eS_1 h
  refine lv_aload_n F.1 F.2.1 dX0_clearTree_5 rfl (lv_at hl 0 rfl) ?_
  refine lv_iconst (v := 0) F.1 F.2.1 dX0_clearTree_6 (by decide) ?_
  refine rw_put ndC (q0 := 9 + t) (x := 0) F hK hW hS (idC_8 _ ht) rfl rfl in_X0_clearTree_X0 tyX0 tyX0_ok nmX0 2 (by decide) lk_X0_clearTree_19 rfl (ty := .int) (by decide +kernel) rfl rfl (Nat.le_of_ble_eq_true rfl) rfl dX0_clearTree_7 (fun H locs S_2 eS_2 hW hS => ?_)
  have h := lt_n eS_2 h
  refine lv_aload_n F.1 F.2.1 dX0_clearTree_10 rfl (lv_at hl 0 rfl) ?_
  refine lv_iconst (v := 0) F.1 F.2.1 dX0_clearTree_11 (by decide) ?_
  refine rw_put ndC (q0 := 9 + t) (x := 0) F hK hW hS (idC_8 _ ht) rfl rfl in_X0_clearTree_X0 tyX0 tyX0_ok nmX0 3 (by decide) lk_X0_clearTree_22 rfl (ty := .int) (by decide +kernel) rfl rfl (Nat.le_of_ble_eq_true rfl) rfl dX0_clearTree_12 (fun H locs S_3 eS_3 hW hS => ?_)
  have h := lt_n eS_3 h
  exact rw_retv F hr hlk hK hW hS h dX0_clearTree_15
/-! CellCover$Tape.symbolOf(I)I -/
abbrev rm_X6_symbolOf : Room := { frames := 0, cells := 0, slots := 0, locals := 0 }
set_option maxHeartbeats 4000000 in
set_option maxRecDepth 100000 in
theorem w_X6_symbolOf_39 {p : Program} {l : Launch} {e : Env} {s : State} {m : MethodId} {args : Array Value} {below : List Frame} {meth : Method} {c : Code} {G : GT} {A : Nat → Prop} (F : CallFix p m c cX6_symbolOf 1 s args wsX6_symbolOf RX6) (hr : meth.sig.returnType = (some .int)) (hlk : meth.locks = false) (hK : va_K G.1 vwCl (tyl G) s) (out : Int32 × St) : ∀ (S : St) (y0 : Int32) (H : Heap) (locs : List Loc) (ls : Array Slot), Wd shC idsC G A S H → va_S A s.heap H locs → lv_has ls 1 [] → j_X6_symbolOf_39 S y0 = some out → W p l e rm_X6_symbolOf s m args below meth c H locs 0 0 (MQ below (QI shC idsC G A out) args s 0 0 A) (F0 m 39 ls [.int y0]) := by
  intro S y0 H locs ls hW hS hl h
  unfold j_X6_symbolOf_39 at h
  exact rw_ret F hr hlk hK hW hS h dX6_symbolOf_39
set_option maxHeartbeats 4000000 in
set_option maxRecDepth 100000 in
theorem w_X6_symbolOf_37 {p : Program} {l : Launch} {e : Env} {s : State} {m : MethodId} {args : Array Value} {below : List Frame} {meth : Method} {c : Code} {G : GT} {A : Nat → Prop} (F : CallFix p m c cX6_symbolOf 1 s args wsX6_symbolOf RX6) (hr : meth.sig.returnType = (some .int)) (hlk : meth.locks = false) (hK : va_K G.1 vwCl (tyl G) s) (out : Int32 × St) : ∀ (S : St) (H : Heap) (locs : List Loc) (ls : Array Slot), Wd shC idsC G A S H → va_S A s.heap H locs → lv_has ls 1 [] → j_X6_symbolOf_37 S = some out → W p l e rm_X6_symbolOf s m args below meth c H locs 0 0 (MQ below (QI shC idsC G A out) args s 0 0 A) (F0 m 37 ls []) := by
  intro S H locs ls hW hS hl h
  unfold j_X6_symbolOf_37 at h
  refine lv_bipush (v := -4) F.1 F.2.1 dX6_symbolOf_37 (by decide) ?_
  exact w_X6_symbolOf_39 F hr hlk hK out  _ _ _ _ _  hW hS hl h
set_option maxHeartbeats 4000000 in
set_option maxRecDepth 100000 in
theorem c_X6_symbolOf (l : Launch) (G : GT) (A : Nat → Prop) (a0 : Int32) (S : St) (out : Int32 × St) (h : f_X6_symbolOf a0 S = some out) : Met l yX6_symbolOf wsX6_symbolOf rm_X6_symbolOf (va_Pc [.int a0] (WD shC idsC G A S)) (QI shC idsC G A out) 0 0 A := by
  refine Met.ofW (cc := cX6_symbolOf) (maxL := 1) (ret := (some .int)) (by decide) rfl ?_
  intro p e s m args below meth c s₁ B hml hv
  obtain ⟨rfl, hW, hK⟩ := hv
  have F : CallFix p m c cX6_symbolOf 1 s _ wsX6_symbolOf RX6 := ⟨B.exec, B.bytes, hml, findClass_of_methodNamed B.named, atoms_spec (ws := wsX6_symbolOf) B.pre⟩
  have hr := B.returns
  have hlk := B.notSynchronized
  have hS : va_S A s.heap s.heap [] := va_S.rf
  have hl := lv_entry ([.int a0]) (n := 1) (Nat.le_of_ble_eq_true rfl)
  rw [lg_entry_eq]
  generalize (lg_sl ([.int a0]) ++ List.replicate (1 - (lg_sl ([.int a0])).length) Slot.unset).toArray = ls at hl ⊢
  have hl : lv_has ls 1 [(0, .int a0)] := hl
  unfold f_X6_symbolOf at h
  refine lv_iload_n F.1 F.2.1 dX6_symbolOf_0 rfl (lv_at hl 0 rfl) ?_
  refine lv_bipush (v := 78) F.1 F.2.1 dX6_symbolOf_1 (by decide) ?_
  refine lv_icmp_ne (tgt := 9) F.1 F.2.1 dX6_symbolOf_3 (by decide) (fun c_1 => ?_) (fun c_1 => ?_)
  · have h := (if_neg c_1).symm.trans h
    refine lv_iload_n F.1 F.2.1 dX6_symbolOf_9 rfl (lv_at hl 0 rfl) ?_
    refine lv_bipush (v := 73) F.1 F.2.1 dX6_symbolOf_10 (by decide) ?_
    refine lv_icmp_ne (tgt := 18) F.1 F.2.1 dX6_symbolOf_12 (by decide) (fun c_2 => ?_) (fun c_2 => ?_)
    · have h := (if_neg c_2).symm.trans h
      refine lv_iload_n F.1 F.2.1 dX6_symbolOf_18 rfl (lv_at hl 0 rfl) ?_
      refine lv_bipush (v := 97) F.1 F.2.1 dX6_symbolOf_19 (by decide) ?_
      refine lv_icmp_lt (tgt := 37) F.1 F.2.1 dX6_symbolOf_21 (by decide) (fun c_3 => ?_) (fun c_3 => ?_)
      · have h := (if_pos c_3).symm.trans h
        exact w_X6_symbolOf_37 F hr hlk hK out  _ _ _ _  hW hS (lv_sub hl [] rfl) h
      · have h := (if_neg c_3).symm.trans h
        refine lv_iload_n F.1 F.2.1 dX6_symbolOf_24 rfl (lv_at hl 0 rfl) ?_
        refine lv_bipush (v := 103) F.1 F.2.1 dX6_symbolOf_25 (by decide) ?_
        refine lv_icmp_ge (tgt := 37) F.1 F.2.1 dX6_symbolOf_27 (by decide) (fun c_4 => ?_) (fun c_4 => ?_)
        · have h := (if_pos c_4).symm.trans h
          exact w_X6_symbolOf_37 F hr hlk hK out  _ _ _ _  hW hS (lv_sub hl [] rfl) h
        · have h := (if_neg c_4).symm.trans h
          refine lv_iload_n F.1 F.2.1 dX6_symbolOf_30 rfl (lv_at hl 0 rfl) ?_
          refine lv_bipush (v := 97) F.1 F.2.1 dX6_symbolOf_31 (by decide) ?_
          refine lv_isub F.1 F.2.1 dX6_symbolOf_33 ?_
          refine lv_goto (tgt := 39) F.1 F.2.1 dX6_symbolOf_34 (by decide) ?_
          exact w_X6_symbolOf_39 F hr hlk hK out  _ _ _ _ _  hW hS (lv_sub hl [] rfl) h
    · have h := (if_pos c_2).symm.trans h
      refine lv_bipush (v := 6) F.1 F.2.1 dX6_symbolOf_15 (by decide) ?_
      exact rw_ret F hr hlk hK hW hS h dX6_symbolOf_17
  · have h := (if_pos c_1).symm.trans h
    refine lv_bipush (v := 7) F.1 F.2.1 dX6_symbolOf_6 (by decide) ?_
    exact rw_ret F hr hlk hK hW hS h dX6_symbolOf_8
/-! CellCover$Cell.addSymbol(I)V -/
abbrev rm_X0_addSymbol : Room := { frames := 0, cells := 0, slots := 0, locals := 0 }
theorem in_X0_addSymbol_X0 : ∀ w ∈ wsX00, w ∈ wsX0_addSymbol := by decide +kernel
theorem lk_X0_addSymbol_15 : Cond.fieldLink RX0 15 "CellCover$Cell" "symbols" "I" ∈ wsX0_addSymbol := by decide +kernel
theorem lk_X0_addSymbol_9 : Cond.fieldLink RX0 9 "CellCover$Cell" "symbol" "[I" ∈ wsX0_addSymbol := by decide +kernel
theorem lk_X0_addSymbol_22 : Cond.fieldLink RX0 22 "CellCover$Cell" "pinBits" "I" ∈ wsX0_addSymbol := by decide +kernel
theorem lk_X0_addSymbol_19 : Cond.fieldLink RX0 19 "CellCover$Cell" "nands" "I" ∈ wsX0_addSymbol := by decide +kernel
set_option maxHeartbeats 4000000 in
set_option maxRecDepth 100000 in
theorem w_X0_addSymbol_67 {p : Program} {l : Launch} {e : Env} {s : State} {m : MethodId} {args : Array Value} {below : List Frame} {meth : Method} {c : Code} {G : GT} {A : Nat → Prop} (F : CallFix p m c cX0_addSymbol 2 s args wsX0_addSymbol RX0) (hr : meth.sig.returnType = none) (hlk : meth.locks = false) (hK : va_K G.1 vwCl (tyl G) s) (t : Nat) (ht : t < 20) (out : St) : ∀ (S : St) (H : Heap) (locs : List Loc) (ls : Array Slot), Wd shC idsC G A S H → va_S A s.heap H locs → lv_has ls 2 [] → j_X0_addSymbol_67 t S = some out → W p l e rm_X0_addSymbol s m args below meth c H locs 0 0 (MQ below (QV shC idsC G A out) args s 0 0 A) (F0 m 67 ls []) := by
  intro S H locs ls hW hS hl h
  unfold j_X0_addSymbol_67 at h
  exact rw_retv F hr hlk hK hW hS h dX0_addSymbol_67
set_option maxHeartbeats 4000000 in
set_option maxRecDepth 100000 in
theorem c_X0_addSymbol (l : Launch) (G : GT) (A : Nat → Prop) (t : Nat) (ht : t < 20) (a0 : Int32) (S : St) (out : St) (h : f_X0_addSymbol t a0 S = some out) : Met l yX0_addSymbol wsX0_addSymbol rm_X0_addSymbol (va_Pc [.ref (G.2.2 8 t), .int a0] (WD shC idsC G A S)) (QV shC idsC G A out) 0 0 A := by
  refine Met.ofW (cc := cX0_addSymbol) (maxL := 2) (ret := none) (by decide) rfl ?_
  intro p e s m args below meth c s₁ B hml hv
  obtain ⟨rfl, hW, hK⟩ := hv
  have F : CallFix p m c cX0_addSymbol 2 s _ wsX0_addSymbol RX0 := ⟨B.exec, B.bytes, hml, findClass_of_methodNamed B.named, atoms_spec (ws := wsX0_addSymbol) B.pre⟩
  have hr := B.returns
  have hlk := B.notSynchronized
  have hS : va_S A s.heap s.heap [] := va_S.rf
  have hl := lv_entry ([.ref (G.2.2 8 t), .int a0]) (n := 2) (Nat.le_of_ble_eq_true rfl)
  rw [lg_entry_eq]
  generalize (lg_sl ([.ref (G.2.2 8 t), .int a0]) ++ List.replicate (2 - (lg_sl ([.ref (G.2.2 8 t), .int a0])).length) Slot.unset).toArray = ls at hl ⊢
  have hl : lv_has ls 2 [(0, .ref (G.2.2 8 t)), (1, .int a0)] := hl
  unfold f_X0_addSymbol at h
  refine lv_aload_n F.1 F.2.1 dX0_addSymbol_0 rfl (lv_at hl 0 rfl) ?_
  refine rw_get (q0 := 9 + t) F hK hW (idC_8 _ ht) rfl rfl in_X0_addSymbol_X0 1 (by decide) lk_X0_addSymbol_15 rfl dX0_addSymbol_1 ?_
  refine lv_bipush (v := 12) F.1 F.2.1 dX0_addSymbol_4 (by decide) ?_
  refine lv_icmp_lt (tgt := 10) F.1 F.2.1 dX0_addSymbol_6 (by decide) (fun c_1 => ?_) (fun c_1 => ?_)
  · have h := (if_pos c_1).symm.trans h
    refine lv_aload_n F.1 F.2.1 dX0_addSymbol_10 rfl (lv_at hl 0 rfl) ?_
    refine rw_get (q0 := 9 + t) F hK hW (idC_8 _ ht) rfl rfl in_X0_addSymbol_X0 0 (by decide) lk_X0_addSymbol_9 rfl dX0_addSymbol_11 ?_
    refine lv_aload_n F.1 F.2.1 dX0_addSymbol_14 rfl (lv_at hl 0 rfl) ?_
    refine rw_get (q0 := 9 + t) F hK hW (idC_8 _ ht) rfl rfl in_X0_addSymbol_X0 1 (by decide) lk_X0_addSymbol_15 rfl dX0_addSymbol_15 ?_
    refine lv_iload_n F.1 F.2.1 dX0_addSymbol_18 rfl (lv_at hl 1 rfl) ?_
    obtain ⟨b_2, h⟩ := gd_some h
    refine rw_iast ndC (q0 := 64 + t) F hK hW hS (idC_36 _ ht) (fun _ => rfl) (ix_in b_2) dX0_addSymbol_19 (fun H locs S_3 eS_3 hW hS => ?_)
    have h := lt_n eS_3 h
    refine lv_aload_n F.1 F.2.1 dX0_addSymbol_20 rfl (lv_at hl 0 rfl) ?_
    refine lv_dup F.1 F.2.1 dX0_addSymbol_21 rfl ?_
    refine rw_get (q0 := 9 + t) F hK hW (idC_8 _ ht) rfl rfl in_X0_addSymbol_X0 1 (by decide) lk_X0_addSymbol_15 rfl dX0_addSymbol_22 ?_
    refine lv_iconst (v := 1) F.1 F.2.1 dX0_addSymbol_25 (by decide) ?_
    refine lv_iadd F.1 F.2.1 dX0_addSymbol_26 ?_
    refine rw_put ndC (q0 := 9 + t) (x := (S_3 8 t 1) + 1) F hK hW hS (idC_8 _ ht) rfl rfl in_X0_addSymbol_X0 tyX0 tyX0_ok nmX0 1 (by decide) lk_X0_addSymbol_15 rfl (ty := .int) (by decide +kernel) rfl rfl (Nat.le_of_ble_eq_true rfl) rfl dX0_addSymbol_27 (fun H locs S_4 eS_4 hW hS => ?_)
    have h := lt_n eS_4 h
    refine lv_iload_n F.1 F.2.1 dX0_addSymbol_30 rfl (lv_at hl 1 rfl) ?_
    refine lv_bipush (v := 7) F.1 F.2.1 dX0_addSymbol_31 (by decide) ?_
    refine lv_icmp_ne (tgt := 49) F.1 F.2.1 dX0_addSymbol_33 (by decide) (fun c_5 => ?_) (fun c_5 => ?_)
    · have h := (if_neg c_5).symm.trans h
      refine lv_iload_n F.1 F.2.1 dX0_addSymbol_49 rfl (lv_at hl 1 rfl) ?_
      refine lv_bipush (v := 6) F.1 F.2.1 dX0_addSymbol_50 (by decide) ?_
      refine lv_icmp_ge (tgt := 67) F.1 F.2.1 dX0_addSymbol_52 (by decide) (fun c_6 => ?_) (fun c_6 => ?_)
      · have h := (if_pos c_6).symm.trans h
        exact w_X0_addSymbol_67 F hr hlk hK t ht out  _ _ _ _  hW hS (lv_sub hl [] rfl) h
      · have h := (if_neg c_6).symm.trans h
        refine lv_aload_n F.1 F.2.1 dX0_addSymbol_55 rfl (lv_at hl 0 rfl) ?_
        refine lv_dup F.1 F.2.1 dX0_addSymbol_56 rfl ?_
        refine rw_get (q0 := 9 + t) F hK hW (idC_8 _ ht) rfl rfl in_X0_addSymbol_X0 3 (by decide) lk_X0_addSymbol_22 rfl dX0_addSymbol_57 ?_
        refine lv_iconst (v := 1) F.1 F.2.1 dX0_addSymbol_60 (by decide) ?_
        refine lv_iload_n F.1 F.2.1 dX0_addSymbol_61 rfl (lv_at hl 1 rfl) ?_
        refine lv_ishl F.1 F.2.1 dX0_addSymbol_62 ?_
        refine lv_ior F.1 F.2.1 dX0_addSymbol_63 ?_
        refine rw_put ndC (q0 := 9 + t) (x := (S_4 8 t 3) ||| ((1 : Int32) <<< (a0 &&& 31))) F hK hW hS (idC_8 _ ht) rfl rfl in_X0_addSymbol_X0 tyX0 tyX0_ok nmX0 3 (by decide) lk_X0_addSymbol_22 rfl (ty := .int) (by decide +kernel) rfl rfl (Nat.le_of_ble_eq_true rfl) rfl dX0_addSymbol_64 (fun H locs S_7 eS_7 hW hS => ?_)
        have h := lt_n eS_7 h
        exact w_X0_addSymbol_67 F hr hlk hK t ht out  _ _ _ _  hW hS (lv_sub hl [] rfl) h
    · have h := (if_pos c_5).symm.trans h
      refine lv_aload_n F.1 F.2.1 dX0_addSymbol_36 rfl (lv_at hl 0 rfl) ?_
      refine lv_dup F.1 F.2.1 dX0_addSymbol_37 rfl ?_
      refine rw_get (q0 := 9 + t) F hK hW (idC_8 _ ht) rfl rfl in_X0_addSymbol_X0 2 (by decide) lk_X0_addSymbol_19 rfl dX0_addSymbol_38 ?_
      refine lv_iconst (v := 1) F.1 F.2.1 dX0_addSymbol_41 (by decide) ?_
      refine lv_iadd F.1 F.2.1 dX0_addSymbol_42 ?_
      refine rw_put ndC (q0 := 9 + t) (x := (S_4 8 t 2) + 1) F hK hW hS (idC_8 _ ht) rfl rfl in_X0_addSymbol_X0 tyX0 tyX0_ok nmX0 2 (by decide) lk_X0_addSymbol_19 rfl (ty := .int) (by decide +kernel) rfl rfl (Nat.le_of_ble_eq_true rfl) rfl dX0_addSymbol_43 (fun H locs S_8 eS_8 hW hS => ?_)
      have h := lt_n eS_8 h
      refine lv_goto (tgt := 67) F.1 F.2.1 dX0_addSymbol_46 (by decide) ?_
      exact w_X0_addSymbol_67 F hr hlk hK t ht out  _ _ _ _  hW hS (lv_sub hl [] rfl) h
  · have h := (if_neg c_1).symm.trans h
    exact rw_retv F hr hlk hK hW hS h dX0_addSymbol_9
/-! CellCover$Tape.readTree(LCellCover$Cell;)Z -/
abbrev rm_X6_readTree : Room := { frames := 1, cells := 0, slots := 0, locals := 22 }
theorem in_X6_readTree_X6 : ∀ w ∈ wsX60, w ∈ wsX6_readTree := by decide +kernel
theorem lk_X6_readTree_19 : Cond.fieldLink RX6 19 "CellCover$Tape" "place" "I" ∈ wsX6_readTree := by decide +kernel
theorem lk_X6_readTree_15 : Cond.fieldLink RX6 15 "CellCover$Tape" "length" "I" ∈ wsX6_readTree := by decide +kernel
theorem lk_X6_readTree_9 : Cond.fieldLink RX6 9 "CellCover$Tape" "bytes" "[I" ∈ wsX6_readTree := by decide +kernel
set_option maxHeartbeats 4000000 in
set_option maxRecDepth 100000 in
theorem w_X6_readTree_135 {p : Program} {l : Launch} {e : Env} {s : State} {m : MethodId} {args : Array Value} {below : List Frame} {meth : Method} {c : Code} {G : GT} {A : Nat → Prop} (F : CallFix p m c cX6_readTree 5 s args wsX6_readTree RX6) (hr : meth.sig.returnType = (some .boolean)) (hlk : meth.locks = false) (hK : va_K G.1 vwCl (tyl G) s) (out : Int32 × St) (kb : St → Nat → Int32 → Int32 → Option (Int32 × St)) (Kb : ∀ (S : St) (x1 : Nat) (x2 : Int32) (x3 : Int32) (H : Heap) (locs : List Loc) (ls : Array Slot), x1 < 20 → Wd shC idsC G A S H → va_S A s.heap H locs → lv_has ls 5 [(0, .ref (G.2.2 3 0)), (1, .ref (G.2.2 8 x1)), (2, .int x2), (3, .int x3)] → kb S x1 x2 x3 = some out → W p l e rm_X6_readTree s m args below meth c H locs 0 0 (MQ below (QI shC idsC G A out) args s 0 0 A) (F0 m 8 ls [])) : ∀ (S : St) (x1 : Nat) (x2 : Int32) (x3 : Int32) (H : Heap) (locs : List Loc) (ls : Array Slot), x1 < 20 → Wd shC idsC G A S H → va_S A s.heap H locs → lv_has ls 5 [(0, .ref (G.2.2 3 0)), (1, .ref (G.2.2 8 x1)), (2, .int x2), (3, .int x3)] → j_X6_readTree_135 kb S x1 x2 x3 = some out → W p l e rm_X6_readTree s m args below meth c H locs 0 0 (MQ below (QI shC idsC G A out) args s 0 0 A) (F0 m 135 ls []) := by
  intro S x1 x2 x3 H locs ls hx1 hW hS hl h
  unfold j_X6_readTree_135 at h
  obtain ⟨v_20, ev_20⟩ : ∃ y : Int32, y = x3 + 1 := ⟨_, rfl⟩
  have h := lt_n ev_20 h
  refine lv_iinc (v := v_20) (lv' := [(3, .int v_20), (0, .ref (G.2.2 3 0)), (1, .ref (G.2.2 8 x1)), (2, .int x2)]) F.1 F.2.1 dX6_readTree_135 hl (k := 3) rfl (by rw [ev_20]; rfl) (by decide) rfl (fun ls hl => ?_)
  refine lv_goto (tgt := 8) F.1 F.2.1 dX6_readTree_138 (by decide) ?_
  exact Kb _ _ _ _ _ _ _ hx1 hW hS (lv_sub hl [1, 2, 3, 0] rfl) h
set_option maxHeartbeats 4000000 in
set_option maxRecDepth 100000 in
theorem w_X6_readTree_80 {p : Program} {l : Launch} {e : Env} {s : State} {m : MethodId} {args : Array Value} {below : List Frame} {meth : Method} {c : Code} {G : GT} {A : Nat → Prop} (F : CallFix p m c cX6_readTree 5 s args wsX6_readTree RX6) (hr : meth.sig.returnType = (some .boolean)) (hlk : meth.locks = false) (hK : va_K G.1 vwCl (tyl G) s) (out : Int32 × St) (kb : St → Nat → Int32 → Int32 → Option (Int32 × St)) (Kb : ∀ (S : St) (x1 : Nat) (x2 : Int32) (x3 : Int32) (H : Heap) (locs : List Loc) (ls : Array Slot), x1 < 20 → Wd shC idsC G A S H → va_S A s.heap H locs → lv_has ls 5 [(0, .ref (G.2.2 3 0)), (1, .ref (G.2.2 8 x1)), (2, .int x2), (3, .int x3)] → kb S x1 x2 x3 = some out → W p l e rm_X6_readTree s m args below meth c H locs 0 0 (MQ below (QI shC idsC G A out) args s 0 0 A) (F0 m 8 ls [])) : ∀ (S : St) (x1 : Nat) (x2 : Int32) (x3 : Int32) (x4 : Int32) (H : Heap) (locs : List Loc) (ls : Array Slot), x1 < 20 → Wd shC idsC G A S H → va_S A s.heap H locs → lv_has ls 5 [(0, .ref (G.2.2 3 0)), (1, .ref (G.2.2 8 x1)), (2, .int x2), (3, .int x3), (4, .int x4)] → j_X6_readTree_80 kb S x1 x2 x3 x4 = some out → W p l e rm_X6_readTree s m args below meth c H locs 0 0 (MQ below (QI shC idsC G A out) args s 0 0 A) (F0 m 80 ls []) := by
  intro S x1 x2 x3 x4 H locs ls hx1 hW hS hl h
  unfold j_X6_readTree_80 at h
  refine lv_iload_n F.1 F.2.1 dX6_readTree_80 rfl (lv_at hl 3 rfl) ?_
  refine lv_bipush (v := 12) F.1 F.2.1 dX6_readTree_81 (by decide) ?_
  refine lv_icmp_lt (tgt := 96) F.1 F.2.1 dX6_readTree_83 (by decide) (fun c_14 => ?_) (fun c_14 => ?_)
  · have h := (if_pos c_14).symm.trans h
    refine lv_aload_n F.1 F.2.1 dX6_readTree_96 rfl (lv_at hl 1 rfl) ?_
    refine lv_iload F.1 F.2.1 dX6_readTree_97 (lv_at hl 4 rfl) ?_
    obtain ⟨q_15, hq_15, h⟩ := bv_some h
    refine rw_vv F hK hW hS [.int x4] (rest := []) (c_X0_addSymbol l G A x1 hx1 x4 S q_15 hq_15) (cwV 1 F.2.2.2.2 gX6_readTree_X0_addSymbol rfl rfl rfl (by decide +kernel) ⟨Nat.le_of_ble_eq_true rfl, Nat.le_of_ble_eq_true rfl⟩) (rw_recv (q0 := 9 + x1) hK hW (idC_8 _ hx1) rfl rfl) rfl hl.1 rfl (Nat.le_of_ble_eq_true rfl) dX6_readTree_99 (fun H locs hW hS => ?_)
    refine lv_aload_n F.1 F.2.1 dX6_readTree_102 rfl (lv_at hl 0 rfl) ?_
    refine lv_dup F.1 F.2.1 dX6_readTree_103 rfl ?_
    refine rw_get (q0 := 3) F hK hW idC_3 rfl rfl in_X6_readTree_X6 2 (by decide) lk_X6_readTree_19 rfl dX6_readTree_104 ?_
    refine lv_iconst (v := 1) F.1 F.2.1 dX6_readTree_107 (by decide) ?_
    refine lv_iadd F.1 F.2.1 dX6_readTree_108 ?_
    refine rw_put ndC (q0 := 3) (x := (q_15 3 0 2) + 1) F hK hW hS idC_3 rfl rfl in_X6_readTree_X6 tyX6 tyX6_ok nmX6 2 (by decide) lk_X6_readTree_19 rfl (ty := .int) (by decide +kernel) rfl rfl (Nat.le_of_ble_eq_true rfl) rfl dX6_readTree_109 (fun H locs S_17 eS_17 hW hS => ?_)
    have h := lt_n eS_17 h
    refine lv_iload F.1 F.2.1 dX6_readTree_112 (lv_at hl 4 rfl) ?_
    refine lv_bipush (v := 7) F.1 F.2.1 dX6_readTree_114 (by decide) ?_
    refine lv_icmp_ne (tgt := 125) F.1 F.2.1 dX6_readTree_116 (by decide) (fun c_18 => ?_) (fun c_18 => ?_)
    · have h := (if_neg c_18).symm.trans h
      refine lv_iload F.1 F.2.1 dX6_readTree_125 (lv_at hl 4 rfl) ?_
      refine lv_bipush (v := 6) F.1 F.2.1 dX6_readTree_127 (by decide) ?_
      refine lv_icmp_ge (tgt := 135) F.1 F.2.1 dX6_readTree_129 (by decide) (fun c_19 => ?_) (fun c_19 => ?_)
      · have h := (if_pos c_19).symm.trans h
        exact w_X6_readTree_135 F hr hlk hK out kb Kb _ _ _ _ _ _ _ hx1 hW hS (lv_sub hl [0, 1, 2, 3] rfl) h
      · have h := (if_neg c_19).symm.trans h
        obtain ⟨v_21, ev_21⟩ : ∃ y : Int32, y = x2 + (-1) := ⟨_, rfl⟩
        have h := lt_n ev_21 h
        refine lv_iinc (v := v_21) (lv' := [(2, .int v_21), (0, .ref (G.2.2 3 0)), (1, .ref (G.2.2 8 x1)), (3, .int x3), (4, .int x4)]) F.1 F.2.1 dX6_readTree_132 hl (k := 2) rfl (by rw [ev_21]; rfl) (by decide) rfl (fun ls hl => ?_)
        exact w_X6_readTree_135 F hr hlk hK out kb Kb _ _ _ _ _ _ _ hx1 hW hS (lv_sub hl [1, 2, 0, 3] rfl) h
    · have h := (if_pos c_18).symm.trans h
      obtain ⟨v_22, ev_22⟩ : ∃ y : Int32, y = x2 + 1 := ⟨_, rfl⟩
      have h := lt_n ev_22 h
      refine lv_iinc (v := v_22) (lv' := [(2, .int v_22), (0, .ref (G.2.2 3 0)), (1, .ref (G.2.2 8 x1)), (3, .int x3), (4, .int x4)]) F.1 F.2.1 dX6_readTree_119 hl (k := 2) rfl (by rw [ev_22]; rfl) (by decide) rfl (fun ls hl => ?_)
      refine lv_goto (tgt := 135) F.1 F.2.1 dX6_readTree_122 (by decide) ?_
      exact w_X6_readTree_135 F hr hlk hK out kb Kb _ _ _ _ _ _ _ hx1 hW hS (lv_sub hl [1, 2, 0, 3] rfl) h
  · have h := (if_neg c_14).symm.trans h
    refine lv_aload_n F.1 F.2.1 dX6_readTree_86 rfl (lv_at hl 0 rfl) ?_
    refine lv_aload_n F.1 F.2.1 dX6_readTree_87 rfl (lv_at hl 0 rfl) ?_
    refine rw_get (q0 := 3) F hK hW idC_3 rfl rfl in_X6_readTree_X6 2 (by decide) lk_X6_readTree_19 rfl dX6_readTree_88 ?_
    refine lv_iconst (v := 3) F.1 F.2.1 dX6_readTree_91 (by decide) ?_
    obtain ⟨r_24, S_25, hq_23, h⟩ := bi_some h
    refine rw_vi F hK hW hS [.int (S 3 0 2), .int 3] (rest := []) (c_X6_failAt l G A (S 3 0 2) 3 S (r_24, S_25) hq_23) (cwV 2 F.2.2.2.2 gX6_readTree_X6_failAt rfl rfl rfl (by decide +kernel) ⟨Nat.le_of_ble_eq_true rfl, Nat.le_of_ble_eq_true rfl⟩) (rw_recv (q0 := 3) hK hW idC_3 rfl rfl) rfl hl.1 rfl (Nat.le_of_ble_eq_true rfl) dX6_readTree_92 (fun H locs hW hS => ?_)
    obtain ⟨b_26, h⟩ := gd_some h
    exact rw_retz F hr hlk hK hW hS b_26 h dX6_readTree_95
set_option maxHeartbeats 4000000 in
set_option maxRecDepth 100000 in
theorem w_X6_readTree_50 {p : Program} {l : Launch} {e : Env} {s : State} {m : MethodId} {args : Array Value} {below : List Frame} {meth : Method} {c : Code} {G : GT} {A : Nat → Prop} (F : CallFix p m c cX6_readTree 5 s args wsX6_readTree RX6) (hr : meth.sig.returnType = (some .boolean)) (hlk : meth.locks = false) (hK : va_K G.1 vwCl (tyl G) s) (out : Int32 × St) (kb : St → Nat → Int32 → Int32 → Option (Int32 × St)) (Kb : ∀ (S : St) (x1 : Nat) (x2 : Int32) (x3 : Int32) (H : Heap) (locs : List Loc) (ls : Array Slot), x1 < 20 → Wd shC idsC G A S H → va_S A s.heap H locs → lv_has ls 5 [(0, .ref (G.2.2 3 0)), (1, .ref (G.2.2 8 x1)), (2, .int x2), (3, .int x3)] → kb S x1 x2 x3 = some out → W p l e rm_X6_readTree s m args below meth c H locs 0 0 (MQ below (QI shC idsC G A out) args s 0 0 A) (F0 m 8 ls [])) : ∀ (S : St) (x1 : Nat) (x2 : Int32) (x3 : Int32) (y0 : Int32) (H : Heap) (locs : List Loc) (ls : Array Slot), x1 < 20 → Wd shC idsC G A S H → va_S A s.heap H locs → lv_has ls 5 [(0, .ref (G.2.2 3 0)), (1, .ref (G.2.2 8 x1)), (2, .int x2), (3, .int x3)] → j_X6_readTree_50 kb S x1 x2 x3 y0 = some out → W p l e rm_X6_readTree s m args below meth c H locs 0 0 (MQ below (QI shC idsC G A out) args s 0 0 A) (F0 m 50 ls [.int y0]) := by
  intro S x1 x2 x3 y0 H locs ls hx1 hW hS hl h
  unfold j_X6_readTree_50 at h
  refine lv_istore (lv' := [(4, .int y0), (0, .ref (G.2.2 3 0)), (1, .ref (G.2.2 8 x1)), (2, .int x2), (3, .int x3)]) F.1 F.2.1 dX6_readTree_50 hl (by decide) rfl (fun ls hl => ?_)
  refine lv_iload F.1 F.2.1 dX6_readTree_52 (lv_at hl 0 rfl) ?_
  refine lv_bipush (v := -4) F.1 F.2.1 dX6_readTree_54 (by decide) ?_
  refine lv_icmp_eq (tgt := 70) F.1 F.2.1 dX6_readTree_56 (by decide) (fun c_8 => ?_) (fun c_8 => ?_)
  · have h := (if_pos c_8).symm.trans h
    refine lv_aload_n F.1 F.2.1 dX6_readTree_70 rfl (lv_at hl 1 rfl) ?_
    refine lv_aload_n F.1 F.2.1 dX6_readTree_71 rfl (lv_at hl 1 rfl) ?_
    refine rw_get (q0 := 3) F hK hW idC_3 rfl rfl in_X6_readTree_X6 2 (by decide) lk_X6_readTree_19 rfl dX6_readTree_72 ?_
    refine lv_iconst (v := 1) F.1 F.2.1 dX6_readTree_75 (by decide) ?_
    obtain ⟨r_10, S_11, hq_9, h⟩ := bi_some h
    refine rw_vi F hK hW hS [.int (S 3 0 2), .int 1] (rest := []) (c_X6_failAt l G A (S 3 0 2) 1 S (r_10, S_11) hq_9) (cwV 2 F.2.2.2.2 gX6_readTree_X6_failAt rfl rfl rfl (by decide +kernel) ⟨Nat.le_of_ble_eq_true rfl, Nat.le_of_ble_eq_true rfl⟩) (rw_recv (q0 := 3) hK hW idC_3 rfl rfl) rfl hl.1 rfl (Nat.le_of_ble_eq_true rfl) dX6_readTree_76 (fun H locs hW hS => ?_)
    obtain ⟨b_12, h⟩ := gd_some h
    exact rw_retz F hr hlk hK hW hS b_12 h dX6_readTree_79
  · have h := (if_neg c_8).symm.trans h
    refine lv_iload_n F.1 F.2.1 dX6_readTree_59 rfl (lv_at hl 4 rfl) ?_
    refine lv_if_ne (tgt := 80) F.1 F.2.1 dX6_readTree_60 (by decide) (fun c_13 => ?_) (fun c_13 => ?_)
    · have h := (if_neg c_13).symm.trans h
      exact w_X6_readTree_80 F hr hlk hK out kb Kb _ _ _ _ _ _ _ _ hx1 hW hS (lv_sub hl [1, 2, 3, 4, 0] rfl) h
    · have h := (if_pos c_13).symm.trans h
      refine lv_iload F.1 F.2.1 dX6_readTree_63 (lv_at hl 0 rfl) ?_
      refine lv_bipush (v := 6) F.1 F.2.1 dX6_readTree_65 (by decide) ?_
      refine lv_icmp_ge (tgt := 80) F.1 F.2.1 dX6_readTree_67 (by decide) (fun c_27 => ?_) (fun c_27 => ?_)
      · have h := (if_pos c_27).symm.trans h
        exact w_X6_readTree_80 F hr hlk hK out kb Kb _ _ _ _ _ _ _ _ hx1 hW hS (lv_sub hl [1, 2, 3, 4, 0] rfl) h
      · have h := (if_neg c_27).symm.trans h
        refine lv_aload_n F.1 F.2.1 dX6_readTree_70 rfl (lv_at hl 1 rfl) ?_
        refine lv_aload_n F.1 F.2.1 dX6_readTree_71 rfl (lv_at hl 1 rfl) ?_
        refine rw_get (q0 := 3) F hK hW idC_3 rfl rfl in_X6_readTree_X6 2 (by decide) lk_X6_readTree_19 rfl dX6_readTree_72 ?_
        refine lv_iconst (v := 1) F.1 F.2.1 dX6_readTree_75 (by decide) ?_
        obtain ⟨r_29, S_30, hq_28, h⟩ := bi_some h
        refine rw_vi F hK hW hS [.int (S 3 0 2), .int 1] (rest := []) (c_X6_failAt l G A (S 3 0 2) 1 S (r_29, S_30) hq_28) (cwV 2 F.2.2.2.2 gX6_readTree_X6_failAt rfl rfl rfl (by decide +kernel) ⟨Nat.le_of_ble_eq_true rfl, Nat.le_of_ble_eq_true rfl⟩) (rw_recv (q0 := 3) hK hW idC_3 rfl rfl) rfl hl.1 rfl (Nat.le_of_ble_eq_true rfl) dX6_readTree_76 (fun H locs hW hS => ?_)
        obtain ⟨b_31, h⟩ := gd_some h
        exact rw_retz F hr hlk hK hW hS b_31 h dX6_readTree_79
set_option maxHeartbeats 4000000 in
set_option maxRecDepth 100000 in
theorem w_X6_readTree_8 {p : Program} {l : Launch} {e : Env} {s : State} {m : MethodId} {args : Array Value} {below : List Frame} {meth : Method} {c : Code} {G : GT} {A : Nat → Prop} (F : CallFix p m c cX6_readTree 5 s args wsX6_readTree RX6) (hr : meth.sig.returnType = (some .boolean)) (hlk : meth.locks = false) (hK : va_K G.1 vwCl (tyl G) s) (out : Int32 × St) : ∀ n : Nat, ∀ (S : St) (x1 : Nat) (x2 : Int32) (x3 : Int32) (H : Heap) (locs : List Loc) (ls : Array Slot), x1 < 20 → Wd shC idsC G A S H → va_S A s.heap H locs → lv_has ls 5 [(0, .ref (G.2.2 3 0)), (1, .ref (G.2.2 8 x1)), (2, .int x2), (3, .int x3)] → l_X6_readTree_8 n S x1 x2 x3 = some out → W p l e rm_X6_readTree s m args below meth c H locs 0 0 (MQ below (QI shC idsC G A out) args s 0 0 A) (F0 m 8 ls []) := by
  intro n
  induction n with
  | zero =>
    intro S x1 x2 x3 H locs ls hx1 hW hS hl h
    cases h
  | succ n Kb =>
    generalize hkb : l_X6_readTree_8 n = kb at Kb
    intro S x1 x2 x3 H locs ls hx1 hW hS hl h
    rw [show l_X6_readTree_8 (n + 1) = b_X6_readTree_8 (l_X6_readTree_8 n) from rfl, hkb] at h
    unfold b_X6_readTree_8 at h
    refine lv_iload_n F.1 F.2.1 dX6_readTree_8 rfl (lv_at hl 3 rfl) ?_
    refine lv_bipush (v := 12) F.1 F.2.1 dX6_readTree_9 (by decide) ?_
    refine lv_icmp_gt (tgt := 141) F.1 F.2.1 dX6_readTree_11 (by decide) (fun c_3 => ?_) (fun c_3 => ?_)
    · have h := (if_pos c_3).symm.trans h
      refine lv_iconst (v := 1) F.1 F.2.1 dX6_readTree_141 (by decide) ?_
      exact rw_retz F hr hlk hK hW hS (by decide) h dX6_readTree_142
    · have h := (if_neg c_3).symm.trans h
      refine lv_iload_n F.1 F.2.1 dX6_readTree_14 rfl (lv_at hl 2 rfl) ?_
      refine lv_if_le (tgt := 141) F.1 F.2.1 dX6_readTree_15 (by decide) (fun c_4 => ?_) (fun c_4 => ?_)
      · have h := (if_pos c_4).symm.trans h
        refine lv_iconst (v := 1) F.1 F.2.1 dX6_readTree_141 (by decide) ?_
        exact rw_retz F hr hlk hK hW hS (by decide) h dX6_readTree_142
      · have h := (if_neg c_4).symm.trans h
        refine lv_aload_n F.1 F.2.1 dX6_readTree_18 rfl (lv_at hl 0 rfl) ?_
        obtain ⟨q_5, hq_5, h⟩ := bv_some h
        refine rw_vv F hK hW hS [] (rest := []) (c_X6_skipBlanks l G A  S q_5 hq_5) (cwV 0 F.2.2.2.2 gX6_readTree_X6_skipBlanks rfl rfl rfl (by decide +kernel) ⟨Nat.le_of_ble_eq_true rfl, Nat.le_of_ble_eq_true rfl⟩) (rw_recv (q0 := 3) hK hW idC_3 rfl rfl) rfl hl.1 rfl (Nat.le_of_ble_eq_true rfl) dX6_readTree_19 (fun H locs hW hS => ?_)
        refine lv_aload_n F.1 F.2.1 dX6_readTree_22 rfl (lv_at hl 0 rfl) ?_
        refine rw_get (q0 := 3) F hK hW idC_3 rfl rfl in_X6_readTree_X6 2 (by decide) lk_X6_readTree_19 rfl dX6_readTree_23 ?_
        refine lv_aload_n F.1 F.2.1 dX6_readTree_26 rfl (lv_at hl 0 rfl) ?_
        refine rw_get (q0 := 3) F hK hW idC_3 rfl rfl in_X6_readTree_X6 1 (by decide) lk_X6_readTree_15 rfl dX6_readTree_27 ?_
        refine lv_icmp_ge (tgt := 48) F.1 F.2.1 dX6_readTree_30 (by decide) (fun c_7 => ?_) (fun c_7 => ?_)
        · have h := (if_pos c_7).symm.trans h
          refine lv_bipush (v := -4) F.1 F.2.1 dX6_readTree_48 (by decide) ?_
          exact w_X6_readTree_50 F hr hlk hK out kb Kb _ _ _ _ _ _ _ _ hx1 hW hS hl h
        · have h := (if_neg c_7).symm.trans h
          refine lv_aload_n F.1 F.2.1 dX6_readTree_33 rfl (lv_at hl 0 rfl) ?_
          refine rw_get (q0 := 3) F hK hW idC_3 rfl rfl in_X6_readTree_X6 0 (by decide) lk_X6_readTree_9 rfl dX6_readTree_34 ?_
          refine lv_aload_n F.1 F.2.1 dX6_readTree_37 rfl (lv_at hl 0 rfl) ?_
          refine rw_get (q0 := 3) F hK hW idC_3 rfl rfl in_X6_readTree_X6 2 (by decide) lk_X6_readTree_19 rfl dX6_readTree_38 ?_
          obtain ⟨b_32, h⟩ := gd_some h
          refine rw_iald (q0 := 43) F hK hW idC_23 (fun _ => rfl) (ix_in b_32) dX6_readTree_41 ?_
          refine lv_topi (fun v_33 ev_33 => ?_)
          have h := lt_n ev_33 h
          obtain ⟨r_35, S_36, hq_34, h⟩ := bi_some h
          refine rw_si F hK hW hS [.int v_33] (rest := []) (c_X6_symbolOf l G A v_33 q_5 (r_35, S_36) hq_34) (va_cwS 1 F.2.2.2.2 gX6_readTree_X6_symbolOf rfl rfl rfl (by decide +kernel) ⟨Nat.le_of_ble_eq_true rfl, Nat.le_of_ble_eq_true rfl⟩) rfl hl.1 rfl (Nat.le_of_ble_eq_true rfl) dX6_readTree_42 (fun H locs hW hS => ?_)
          refine lv_goto (tgt := 50) F.1 F.2.1 dX6_readTree_45 (by decide) ?_
          exact w_X6_readTree_50 F hr hlk hK out kb Kb _ _ _ _ _ _ _ _ hx1 hW hS hl h
set_option maxHeartbeats 4000000 in
set_option maxRecDepth 100000 in
theorem c_X6_readTree (l : Launch) (G : GT) (A : Nat → Prop) (a0 : Nat) (ha0 : a0 < 20) (S : St) (out : Int32 × St) (h : f_X6_readTree a0 S = some out) : Met l yX6_readTree wsX6_readTree rm_X6_readTree (va_Pc [.ref (G.2.2 3 0), .ref (G.2.2 8 a0)] (WD shC idsC G A S)) (QI shC idsC G A out) 0 0 A := by
  refine Met.ofW (cc := cX6_readTree) (maxL := 5) (ret := (some .boolean)) (by decide) rfl ?_
  intro p e s m args below meth c s₁ B hml hv
  obtain ⟨rfl, hW, hK⟩ := hv
  have F : CallFix p m c cX6_readTree 5 s _ wsX6_readTree RX6 := ⟨B.exec, B.bytes, hml, findClass_of_methodNamed B.named, atoms_spec (ws := wsX6_readTree) B.pre⟩
  have hr := B.returns
  have hlk := B.notSynchronized
  have hS : va_S A s.heap s.heap [] := va_S.rf
  have hl := lv_entry ([.ref (G.2.2 3 0), .ref (G.2.2 8 a0)]) (n := 5) (Nat.le_of_ble_eq_true rfl)
  rw [lg_entry_eq]
  generalize (lg_sl ([.ref (G.2.2 3 0), .ref (G.2.2 8 a0)]) ++ List.replicate (5 - (lg_sl ([.ref (G.2.2 3 0), .ref (G.2.2 8 a0)])).length) Slot.unset).toArray = ls at hl ⊢
  have hl : lv_has ls 5 [(0, .ref (G.2.2 3 0)), (1, .ref (G.2.2 8 a0))] := hl
  unfold f_X6_readTree at h
  refine lv_aload_n F.1 F.2.1 dX6_readTree_0 rfl (lv_at hl 1 rfl) ?_
  obtain ⟨q_1, hq_1, h⟩ := bv_some h
  refine rw_vv F hK hW hS [] (rest := []) (c_X0_clearTree l G A a0 ha0 S q_1 hq_1) (cwV 0 F.2.2.2.2 gX6_readTree_X0_clearTree rfl rfl rfl (by decide +kernel) ⟨Nat.le_of_ble_eq_true rfl, Nat.le_of_ble_eq_true rfl⟩) (rw_recv (q0 := 9 + a0) hK hW (idC_8 _ ha0) rfl rfl) rfl hl.1 rfl (Nat.le_of_ble_eq_true rfl) dX6_readTree_1 (fun H locs hW hS => ?_)
  refine lv_iconst (v := 1) F.1 F.2.1 dX6_readTree_4 (by decide) ?_
  refine lv_istore_n (lv' := [(2, .int 1), (0, .ref (G.2.2 3 0)), (1, .ref (G.2.2 8 a0))]) F.1 F.2.1 dX6_readTree_5 rfl hl (by decide) rfl (fun ls hl => ?_)
  refine lv_iconst (v := 0) F.1 F.2.1 dX6_readTree_6 (by decide) ?_
  refine lv_istore_n (lv' := [(3, .int 0), (2, .int 1), (0, .ref (G.2.2 3 0)), (1, .ref (G.2.2 8 a0))]) F.1 F.2.1 dX6_readTree_7 rfl hl (by decide) rfl (fun ls hl => ?_)
  refine w_X6_readTree_8 F hr hlk hK out   5000 _ _ _ _ _ _ _ ha0 hW hS (lv_sub hl [2, 3, 1, 0] rfl) h
/-! CellCover$Tape.readEnd()Z -/
abbrev rm_X6_readEnd : Room := { frames := 1, cells := 0, slots := 0, locals := 22 }
theorem in_X6_readEnd_X6 : ∀ w ∈ wsX60, w ∈ wsX6_readEnd := by decide +kernel
theorem lk_X6_readEnd_19 : Cond.fieldLink RX6 19 "CellCover$Tape" "place" "I" ∈ wsX6_readEnd := by decide +kernel
theorem lk_X6_readEnd_15 : Cond.fieldLink RX6 15 "CellCover$Tape" "length" "I" ∈ wsX6_readEnd := by decide +kernel
set_option maxHeartbeats 4000000 in
set_option maxRecDepth 100000 in
theorem w_X6_readEnd_32 {p : Program} {l : Launch} {e : Env} {s : State} {m : MethodId} {args : Array Value} {below : List Frame} {meth : Method} {c : Code} {G : GT} {A : Nat → Prop} (F : CallFix p m c cX6_readEnd 1 s args wsX6_readEnd RX6) (hr : meth.sig.returnType = (some .boolean)) (hlk : meth.locks = false) (hK : va_K G.1 vwCl (tyl G) s) (out : Int32 × St) : ∀ (S : St) (y0 : Int32) (H : Heap) (locs : List Loc) (ls : Array Slot), Wd shC idsC G A S H → va_S A s.heap H locs → lv_has ls 1 [] → j_X6_readEnd_32 S y0 = some out → W p l e rm_X6_readEnd s m args below meth c H locs 0 0 (MQ below (QI shC idsC G A out) args s 0 0 A) (F0 m 32 ls [.int y0]) := by
  intro S y0 H locs ls hW hS hl h
  unfold j_X6_readEnd_32 at h
  obtain ⟨b_4, h⟩ := gd_some h
  exact rw_retz F hr hlk hK hW hS b_4 h dX6_readEnd_32
set_option maxHeartbeats 4000000 in
set_option maxRecDepth 100000 in
theorem w_X6_readEnd_27 {p : Program} {l : Launch} {e : Env} {s : State} {m : MethodId} {args : Array Value} {below : List Frame} {meth : Method} {c : Code} {G : GT} {A : Nat → Prop} (F : CallFix p m c cX6_readEnd 1 s args wsX6_readEnd RX6) (hr : meth.sig.returnType = (some .boolean)) (hlk : meth.locks = false) (hK : va_K G.1 vwCl (tyl G) s) (out : Int32 × St) : ∀ (S : St) (H : Heap) (locs : List Loc) (ls : Array Slot), Wd shC idsC G A S H → va_S A s.heap H locs → lv_has ls 1 [] → j_X6_readEnd_27 S = some out → W p l e rm_X6_readEnd s m args below meth c H locs 0 0 (MQ below (QI shC idsC G A out) args s 0 0 A) (F0 m 27 ls []) := by
  intro S H locs ls hW hS hl h
  unfold j_X6_readEnd_27 at h
  refine lv_iconst (v := 1) F.1 F.2.1 dX6_readEnd_27 (by decide) ?_
  refine lv_goto (tgt := 32) F.1 F.2.1 dX6_readEnd_28 (by decide) ?_
  exact w_X6_readEnd_32 F hr hlk hK out  _ _ _ _ _  hW hS hl h
set_option maxHeartbeats 4000000 in
set_option maxRecDepth 100000 in
theorem c_X6_readEnd (l : Launch) (G : GT) (A : Nat → Prop) (S : St) (out : Int32 × St) (h : f_X6_readEnd S = some out) : Met l yX6_readEnd wsX6_readEnd rm_X6_readEnd (va_Pc [.ref (G.2.2 3 0)] (WD shC idsC G A S)) (QI shC idsC G A out) 0 0 A := by
  refine Met.ofW (cc := cX6_readEnd) (maxL := 1) (ret := (some .boolean)) (by decide) rfl ?_
  intro p e s m args below meth c s₁ B hml hv
  obtain ⟨rfl, hW, hK⟩ := hv
  have F : CallFix p m c cX6_readEnd 1 s _ wsX6_readEnd RX6 := ⟨B.exec, B.bytes, hml, findClass_of_methodNamed B.named, atoms_spec (ws := wsX6_readEnd) B.pre⟩
  have hr := B.returns
  have hlk := B.notSynchronized
  have hS : va_S A s.heap s.heap [] := va_S.rf
  have hl := lv_entry ([.ref (G.2.2 3 0)]) (n := 1) (Nat.le_of_ble_eq_true rfl)
  rw [lg_entry_eq]
  generalize (lg_sl ([.ref (G.2.2 3 0)]) ++ List.replicate (1 - (lg_sl ([.ref (G.2.2 3 0)])).length) Slot.unset).toArray = ls at hl ⊢
  have hl : lv_has ls 1 [(0, .ref (G.2.2 3 0))] := hl
  unfold f_X6_readEnd at h
  refine lv_aload_n F.1 F.2.1 dX6_readEnd_0 rfl (lv_at hl 0 rfl) ?_
  obtain ⟨q_1, hq_1, h⟩ := bv_some h
  refine rw_vv F hK hW hS [] (rest := []) (c_X6_skipBlanks l G A  S q_1 hq_1) (cwV 0 F.2.2.2.2 gX6_readEnd_X6_skipBlanks rfl rfl rfl (by decide +kernel) ⟨Nat.le_of_ble_eq_true rfl, Nat.le_of_ble_eq_true rfl⟩) (rw_recv (q0 := 3) hK hW idC_3 rfl rfl) rfl hl.1 rfl (Nat.le_of_ble_eq_true rfl) dX6_readEnd_1 (fun H locs hW hS => ?_)
  refine lv_aload_n F.1 F.2.1 dX6_readEnd_4 rfl (lv_at hl 0 rfl) ?_
  refine rw_get (q0 := 3) F hK hW idC_3 rfl rfl in_X6_readEnd_X6 2 (by decide) lk_X6_readEnd_19 rfl dX6_readEnd_5 ?_
  refine lv_aload_n F.1 F.2.1 dX6_readEnd_8 rfl (lv_at hl 0 rfl) ?_
  refine rw_get (q0 := 3) F hK hW idC_3 rfl rfl in_X6_readEnd_X6 1 (by decide) lk_X6_readEnd_15 rfl dX6_readEnd_9 ?_
  refine lv_icmp_ge (tgt := 27) F.1 F.2.1 dX6_readEnd_12 (by decide) (fun c_3 => ?_) (fun c_3 => ?_)
  · have h := (if_pos c_3).symm.trans h
    exact w_X6_readEnd_27 F hr hlk hK out  _ _ _ _  hW hS (lv_sub hl [] rfl) h
  · have h := (if_neg c_3).symm.trans h
    refine lv_aload_n F.1 F.2.1 dX6_readEnd_15 rfl (lv_at hl 0 rfl) ?_
    refine lv_aload_n F.1 F.2.1 dX6_readEnd_16 rfl (lv_at hl 0 rfl) ?_
    refine rw_get (q0 := 3) F hK hW idC_3 rfl rfl in_X6_readEnd_X6 2 (by decide) lk_X6_readEnd_19 rfl dX6_readEnd_17 ?_
    refine lv_iconst (v := 1) F.1 F.2.1 dX6_readEnd_20 (by decide) ?_
    obtain ⟨r_6, S_7, hq_5, h⟩ := bi_some h
    refine rw_vi F hK hW hS [.int (q_1 3 0 2), .int 1] (rest := []) (c_X6_failAt l G A (q_1 3 0 2) 1 q_1 (r_6, S_7) hq_5) (cwV 2 F.2.2.2.2 gX6_readEnd_X6_failAt rfl rfl rfl (by decide +kernel) ⟨Nat.le_of_ble_eq_true rfl, Nat.le_of_ble_eq_true rfl⟩) (rw_recv (q0 := 3) hK hW idC_3 rfl rfl) rfl hl.1 rfl (Nat.le_of_ble_eq_true rfl) dX6_readEnd_21 (fun H locs hW hS => ?_)
    refine lv_if_eq (tgt := 31) F.1 F.2.1 dX6_readEnd_24 (by decide) (fun c_8 => ?_) (fun c_8 => ?_)
    · have h := (if_pos c_8).symm.trans h
      refine lv_iconst (v := 0) F.1 F.2.1 dX6_readEnd_31 (by decide) ?_
      exact w_X6_readEnd_32 F hr hlk hK out  _ _ _ _ _  hW hS (lv_sub hl [] rfl) h
    · have h := (if_neg c_8).symm.trans h
      exact w_X6_readEnd_27 F hr hlk hK out  _ _ _ _  hW hS (lv_sub hl [] rfl) h
/-! CellCover$Tape.readInto(LCellCover$Cell;)Z -/
abbrev rm_X6_readInto : Room := { frames := 2, cells := 0, slots := 0, locals := 46 }
theorem in_X6_readInto_X6 : ∀ w ∈ wsX60, w ∈ wsX6_readInto := by decide +kernel
theorem in_X6_readInto_X0 : ∀ w ∈ wsX00, w ∈ wsX6_readInto := by decide +kernel
theorem lk_X6_readInto_22 : Cond.fieldLink RX6 22 "CellCover$Tape" "fault" "I" ∈ wsX6_readInto := by decide +kernel
theorem lk_X6_readInto_19 : Cond.fieldLink RX6 19 "CellCover$Tape" "place" "I" ∈ wsX6_readInto := by decide +kernel
theorem lk_X6_readInto_31 : Cond.fieldLink RX6 31 "CellCover$Cell" "area" "I" ∈ wsX6_readInto := by decide +kernel
theorem lk_X6_readInto_15 : Cond.fieldLink RX6 15 "CellCover$Tape" "length" "I" ∈ wsX6_readInto := by decide +kernel
theorem lk_X6_readInto_9 : Cond.fieldLink RX6 9 "CellCover$Tape" "bytes" "[I" ∈ wsX6_readInto := by decide +kernel
theorem lk_X6_readInto_40 : Cond.fieldLink RX6 40 "CellCover$Cell" "delay" "I" ∈ wsX6_readInto := by decide +kernel
set_option maxHeartbeats 4000000 in
set_option maxRecDepth 100000 in
theorem w_X6_readInto_56 {p : Program} {l : Launch} {e : Env} {s : State} {m : MethodId} {args : Array Value} {below : List Frame} {meth : Method} {c : Code} {G : GT} {A : Nat → Prop} (F : CallFix p m c cX6_readInto 2 s args wsX6_readInto RX6) (hr : meth.sig.returnType = (some .boolean)) (hlk : meth.locks = false) (hK : va_K G.1 vwCl (tyl G) s) (out : Int32 × St) : ∀ (S : St) (H : Heap) (locs : List Loc) (ls : Array Slot), Wd shC idsC G A S H → va_S A s.heap H locs → lv_has ls 2 [(0, .ref (G.2.2 3 0))] → j_X6_readInto_56 S = some out → W p l e rm_X6_readInto s m args below meth c H locs 0 0 (MQ below (QI shC idsC G A out) args s 0 0 A) (F0 m 56 ls []) := by
  intro S H locs ls hW hS hl h
  unfold j_X6_readInto_56 at h
  refine lv_aload_n F.1 F.2.1 dX6_readInto_56 rfl (lv_at hl 0 rfl) ?_
  refine lv_aload_n F.1 F.2.1 dX6_readInto_57 rfl (lv_at hl 0 rfl) ?_
  refine rw_get (q0 := 3) F hK hW idC_3 rfl rfl in_X6_readInto_X6 2 (by decide) lk_X6_readInto_19 rfl dX6_readInto_58 ?_
  refine lv_iconst (v := 1) F.1 F.2.1 dX6_readInto_61 (by decide) ?_
  obtain ⟨r_10, S_11, hq_9, h⟩ := bi_some h
  refine rw_vi F hK hW hS [.int (S 3 0 2), .int 1] (rest := []) (c_X6_failAt l G A (S 3 0 2) 1 S (r_10, S_11) hq_9) (cwV 2 F.2.2.2.2 gX6_readInto_X6_failAt rfl rfl rfl (by decide +kernel) ⟨Nat.le_of_ble_eq_true rfl, Nat.le_of_ble_eq_true rfl⟩) (rw_recv (q0 := 3) hK hW idC_3 rfl rfl) rfl hl.1 rfl (Nat.le_of_ble_eq_true rfl) dX6_readInto_62 (fun H locs hW hS => ?_)
  obtain ⟨b_12, h⟩ := gd_some h
  exact rw_retz F hr hlk hK hW hS b_12 h dX6_readInto_65
set_option maxHeartbeats 4000000 in
set_option maxRecDepth 100000 in
theorem w_X6_readInto_104 {p : Program} {l : Launch} {e : Env} {s : State} {m : MethodId} {args : Array Value} {below : List Frame} {meth : Method} {c : Code} {G : GT} {A : Nat → Prop} (F : CallFix p m c cX6_readInto 2 s args wsX6_readInto RX6) (hr : meth.sig.returnType = (some .boolean)) (hlk : meth.locks = false) (hK : va_K G.1 vwCl (tyl G) s) (out : Int32 × St) : ∀ (S : St) (y0 : Int32) (H : Heap) (locs : List Loc) (ls : Array Slot), Wd shC idsC G A S H → va_S A s.heap H locs → lv_has ls 2 [] → j_X6_readInto_104 S y0 = some out → W p l e rm_X6_readInto s m args below meth c H locs 0 0 (MQ below (QI shC idsC G A out) args s 0 0 A) (F0 m 104 ls [.int y0]) := by
  intro S y0 H locs ls hW hS hl h
  unfold j_X6_readInto_104 at h
  obtain ⟨b_21, h⟩ := gd_some h
  exact rw_retz F hr hlk hK hW hS b_21 h dX6_readInto_104
set_option maxHeartbeats 4000000 in
set_option maxRecDepth 100000 in
theorem w_X6_readInto_103 {p : Program} {l : Launch} {e : Env} {s : State} {m : MethodId} {args : Array Value} {below : List Frame} {meth : Method} {c : Code} {G : GT} {A : Nat → Prop} (F : CallFix p m c cX6_readInto 2 s args wsX6_readInto RX6) (hr : meth.sig.returnType = (some .boolean)) (hlk : meth.locks = false) (hK : va_K G.1 vwCl (tyl G) s) (out : Int32 × St) : ∀ (S : St) (H : Heap) (locs : List Loc) (ls : Array Slot), Wd shC idsC G A S H → va_S A s.heap H locs → lv_has ls 2 [] → j_X6_readInto_103 S = some out → W p l e rm_X6_readInto s m args below meth c H locs 0 0 (MQ below (QI shC idsC G A out) args s 0 0 A) (F0 m 103 ls []) := by
  intro S H locs ls hW hS hl h
  unfold j_X6_readInto_103 at h
  refine lv_iconst (v := 0) F.1 F.2.1 dX6_readInto_103 (by decide) ?_
  exact w_X6_readInto_104 F hr hlk hK out  _ _ _ _ _  hW hS hl h
set_option maxHeartbeats 4000000 in
set_option maxRecDepth 100000 in
theorem c_X6_readInto (l : Launch) (G : GT) (A : Nat → Prop) (a0 : Nat) (ha0 : a0 < 20) (S : St) (out : Int32 × St) (h : f_X6_readInto a0 S = some out) : Met l yX6_readInto wsX6_readInto rm_X6_readInto (va_Pc [.ref (G.2.2 3 0), .ref (G.2.2 8 a0)] (WD shC idsC G A S)) (QI shC idsC G A out) 0 0 A := by
  refine Met.ofW (cc := cX6_readInto) (maxL := 2) (ret := (some .boolean)) (by decide) rfl ?_
  intro p e s m args below meth c s₁ B hml hv
  obtain ⟨rfl, hW, hK⟩ := hv
  have F : CallFix p m c cX6_readInto 2 s _ wsX6_readInto RX6 := ⟨B.exec, B.bytes, hml, findClass_of_methodNamed B.named, atoms_spec (ws := wsX6_readInto) B.pre⟩
  have hr := B.returns
  have hlk := B.notSynchronized
  have hS : va_S A s.heap s.heap [] := va_S.rf
  have hl := lv_entry ([.ref (G.2.2 3 0), .ref (G.2.2 8 a0)]) (n := 2) (Nat.le_of_ble_eq_true rfl)
  rw [lg_entry_eq]
  generalize (lg_sl ([.ref (G.2.2 3 0), .ref (G.2.2 8 a0)]) ++ List.replicate (2 - (lg_sl ([.ref (G.2.2 3 0), .ref (G.2.2 8 a0)])).length) Slot.unset).toArray = ls at hl ⊢
  have hl : lv_has ls 2 [(0, .ref (G.2.2 3 0)), (1, .ref (G.2.2 8 a0))] := hl
  unfold f_X6_readInto at h
  refine lv_aload_n F.1 F.2.1 dX6_readInto_0 rfl (lv_at hl 0 rfl) ?_
  refine lv_iconst (v := 0) F.1 F.2.1 dX6_readInto_1 (by decide) ?_
  refine rw_put ndC (q0 := 3) (x := 0) F hK hW hS idC_3 rfl rfl in_X6_readInto_X6 tyX6 tyX6_ok nmX6 3 (by decide) lk_X6_readInto_22 rfl (ty := .int) (by decide +kernel) rfl rfl (Nat.le_of_ble_eq_true rfl) rfl dX6_readInto_2 (fun H locs S_1 eS_1 hW hS => ?_)
  have h := lt_n eS_1 h
  refine lv_aload_n F.1 F.2.1 dX6_readInto_5 rfl (lv_at hl 0 rfl) ?_
  refine lv_iconst (v := 0) F.1 F.2.1 dX6_readInto_6 (by decide) ?_
  refine rw_put ndC (q0 := 3) (x := 0) F hK hW hS idC_3 rfl rfl in_X6_readInto_X6 tyX6 tyX6_ok nmX6 2 (by decide) lk_X6_readInto_19 rfl (ty := .int) (by decide +kernel) rfl rfl (Nat.le_of_ble_eq_true rfl) rfl dX6_readInto_7 (fun H locs S_2 eS_2 hW hS => ?_)
  have h := lt_n eS_2 h
  refine lv_aload_n F.1 F.2.1 dX6_readInto_10 rfl (lv_at hl 1 rfl) ?_
  refine lv_aload_n F.1 F.2.1 dX6_readInto_11 rfl (lv_at hl 0 rfl) ?_
  refine lv_iconst (v := 1) F.1 F.2.1 dX6_readInto_12 (by decide) ?_
  refine lv_sipush (v := 999) F.1 F.2.1 dX6_readInto_13 (by decide) ?_
  obtain ⟨r_4, S_5, hq_3, h⟩ := bi_some h
  refine rw_vi F hK hW hS [.int 1, .int 999] (rest := [.ref (G.2.2 8 a0)]) (c_X6_readNumber l G A 1 999 S_2 (r_4, S_5) hq_3) (cwV 2 F.2.2.2.2 gX6_readInto_X6_readNumber rfl rfl rfl (by decide +kernel) ⟨Nat.le_of_ble_eq_true rfl, Nat.le_of_ble_eq_true rfl⟩) (rw_recv (q0 := 3) hK hW idC_3 rfl rfl) rfl hl.1 rfl (Nat.le_of_ble_eq_true rfl) dX6_readInto_16 (fun H locs hW hS => ?_)
  refine rw_put ndC (q0 := 9 + a0) (x := r_4) F hK hW hS (idC_8 _ ha0) rfl rfl in_X6_readInto_X0 tyX0 tyX0_ok nmX0 4 (by decide) lk_X6_readInto_31 rfl (ty := .int) (by decide +kernel) rfl rfl (Nat.le_of_ble_eq_true rfl) rfl dX6_readInto_19 (fun H locs S_6 eS_6 hW hS => ?_)
  have h := lt_n eS_6 h
  refine lv_aload_n F.1 F.2.1 dX6_readInto_22 rfl (lv_at hl 0 rfl) ?_
  refine rw_get (q0 := 3) F hK hW idC_3 rfl rfl in_X6_readInto_X6 3 (by decide) lk_X6_readInto_22 rfl dX6_readInto_23 ?_
  refine lv_if_eq (tgt := 31) F.1 F.2.1 dX6_readInto_26 (by decide) (fun c_7 => ?_) (fun c_7 => ?_)
  · have h := (if_pos c_7).symm.trans h
    refine lv_aload_n F.1 F.2.1 dX6_readInto_31 rfl (lv_at hl 0 rfl) ?_
    refine rw_get (q0 := 3) F hK hW idC_3 rfl rfl in_X6_readInto_X6 2 (by decide) lk_X6_readInto_19 rfl dX6_readInto_32 ?_
    refine lv_aload_n F.1 F.2.1 dX6_readInto_35 rfl (lv_at hl 0 rfl) ?_
    refine rw_get (q0 := 3) F hK hW idC_3 rfl rfl in_X6_readInto_X6 1 (by decide) lk_X6_readInto_15 rfl dX6_readInto_36 ?_
    refine lv_icmp_ge (tgt := 56) F.1 F.2.1 dX6_readInto_39 (by decide) (fun c_8 => ?_) (fun c_8 => ?_)
    · have h := (if_pos c_8).symm.trans h
      exact w_X6_readInto_56 F hr hlk hK out  _ _ _ _  hW hS (lv_sub hl [0] rfl) h
    · have h := (if_neg c_8).symm.trans h
      refine lv_aload_n F.1 F.2.1 dX6_readInto_42 rfl (lv_at hl 0 rfl) ?_
      refine rw_get (q0 := 3) F hK hW idC_3 rfl rfl in_X6_readInto_X6 0 (by decide) lk_X6_readInto_9 rfl dX6_readInto_43 ?_
      refine lv_aload_n F.1 F.2.1 dX6_readInto_46 rfl (lv_at hl 0 rfl) ?_
      refine rw_get (q0 := 3) F hK hW idC_3 rfl rfl in_X6_readInto_X6 2 (by decide) lk_X6_readInto_19 rfl dX6_readInto_47 ?_
      obtain ⟨b_13, h⟩ := gd_some h
      refine rw_iald (q0 := 43) F hK hW idC_23 (fun _ => rfl) (ix_in b_13) dX6_readInto_50 ?_
      refine lv_topi (fun v_14 ev_14 => ?_)
      have h := lt_n ev_14 h
      refine lv_bipush (v := 32) F.1 F.2.1 dX6_readInto_51 (by decide) ?_
      refine lv_icmp_eq (tgt := 66) F.1 F.2.1 dX6_readInto_53 (by decide) (fun c_15 => ?_) (fun c_15 => ?_)
      · have h := (if_pos c_15).symm.trans h
        refine lv_aload_n F.1 F.2.1 dX6_readInto_66 rfl (lv_at hl 1 rfl) ?_
        refine lv_aload_n F.1 F.2.1 dX6_readInto_67 rfl (lv_at hl 0 rfl) ?_
        refine lv_iconst (v := 0) F.1 F.2.1 dX6_readInto_68 (by decide) ?_
        refine lv_bipush (v := 99) F.1 F.2.1 dX6_readInto_69 (by decide) ?_
        obtain ⟨r_17, S_18, hq_16, h⟩ := bi_some h
        refine rw_vi F hK hW hS [.int 0, .int 99] (rest := [.ref (G.2.2 8 a0)]) (c_X6_readNumber l G A 0 99 S_6 (r_17, S_18) hq_16) (cwV 2 F.2.2.2.2 gX6_readInto_X6_readNumber rfl rfl rfl (by decide +kernel) ⟨Nat.le_of_ble_eq_true rfl, Nat.le_of_ble_eq_true rfl⟩) (rw_recv (q0 := 3) hK hW idC_3 rfl rfl) rfl hl.1 rfl (Nat.le_of_ble_eq_true rfl) dX6_readInto_71 (fun H locs hW hS => ?_)
        refine rw_put ndC (q0 := 9 + a0) (x := r_17) F hK hW hS (idC_8 _ ha0) rfl rfl in_X6_readInto_X0 tyX0 tyX0_ok nmX0 5 (by decide) lk_X6_readInto_40 rfl (ty := .int) (by decide +kernel) rfl rfl (Nat.le_of_ble_eq_true rfl) rfl dX6_readInto_74 (fun H locs S_19 eS_19 hW hS => ?_)
        have h := lt_n eS_19 h
        refine lv_aload_n F.1 F.2.1 dX6_readInto_77 rfl (lv_at hl 0 rfl) ?_
        refine rw_get (q0 := 3) F hK hW idC_3 rfl rfl in_X6_readInto_X6 3 (by decide) lk_X6_readInto_22 rfl dX6_readInto_78 ?_
        refine lv_if_ne (tgt := 103) F.1 F.2.1 dX6_readInto_81 (by decide) (fun c_20 => ?_) (fun c_20 => ?_)
        · have h := (if_neg c_20).symm.trans h
          exact w_X6_readInto_103 F hr hlk hK out  _ _ _ _  hW hS (lv_sub hl [] rfl) h
        · have h := (if_pos c_20).symm.trans h
          refine lv_aload_n F.1 F.2.1 dX6_readInto_84 rfl (lv_at hl 0 rfl) ?_
          refine lv_aload_n F.1 F.2.1 dX6_readInto_85 rfl (lv_at hl 1 rfl) ?_
          obtain ⟨r_23, S_24, hq_22, h⟩ := bi_some h
          refine rw_vi F hK hW hS [.ref (G.2.2 8 a0)] (rest := []) (c_X6_readTree l G A a0 ha0 S_19 (r_23, S_24) hq_22) (cwV 1 F.2.2.2.2 gX6_readInto_X6_readTree rfl rfl rfl (by decide +kernel) ⟨Nat.le_of_ble_eq_true rfl, Nat.le_of_ble_eq_true rfl⟩) (rw_recv (q0 := 3) hK hW idC_3 rfl rfl) rfl hl.1 rfl (Nat.le_of_ble_eq_true rfl) dX6_readInto_86 (fun H locs hW hS => ?_)
          refine lv_if_eq (tgt := 103) F.1 F.2.1 dX6_readInto_89 (by decide) (fun c_25 => ?_) (fun c_25 => ?_)
          · have h := (if_pos c_25).symm.trans h
            exact w_X6_readInto_103 F hr hlk hK out  _ _ _ _  hW hS (lv_sub hl [] rfl) h
          · have h := (if_neg c_25).symm.trans h
            refine lv_aload_n F.1 F.2.1 dX6_readInto_92 rfl (lv_at hl 0 rfl) ?_
            obtain ⟨r_27, S_28, hq_26, h⟩ := bi_some h
            refine rw_vi F hK hW hS [] (rest := []) (c_X6_readEnd l G A  S_24 (r_27, S_28) hq_26) (cwV 0 F.2.2.2.2 gX6_readInto_X6_readEnd rfl rfl rfl (by decide +kernel) ⟨Nat.le_of_ble_eq_true rfl, Nat.le_of_ble_eq_true rfl⟩) (rw_recv (q0 := 3) hK hW idC_3 rfl rfl) rfl hl.1 rfl (Nat.le_of_ble_eq_true rfl) dX6_readInto_93 (fun H locs hW hS => ?_)
            refine lv_if_eq (tgt := 103) F.1 F.2.1 dX6_readInto_96 (by decide) (fun c_29 => ?_) (fun c_29 => ?_)
            · have h := (if_pos c_29).symm.trans h
              exact w_X6_readInto_103 F hr hlk hK out  _ _ _ _  hW hS (lv_sub hl [] rfl) h
            · have h := (if_neg c_29).symm.trans h
              refine lv_iconst (v := 1) F.1 F.2.1 dX6_readInto_99 (by decide) ?_
              refine lv_goto (tgt := 104) F.1 F.2.1 dX6_readInto_100 (by decide) ?_
              exact w_X6_readInto_104 F hr hlk hK out  _ _ _ _ _  hW hS (lv_sub hl [] rfl) h
      · have h := (if_neg c_15).symm.trans h
        exact w_X6_readInto_56 F hr hlk hK out  _ _ _ _  hW hS (lv_sub hl [0] rfl) h
  · have h := (if_neg c_7).symm.trans h
    refine lv_iconst (v := 0) F.1 F.2.1 dX6_readInto_29 (by decide) ?_
    exact rw_retz F hr hlk hK hW hS (by decide) h dX6_readInto_30
/-! CellCover$Library.keepNext()I -/
abbrev rm_X3_keepNext : Room := { frames := 0, cells := 0, slots := 0, locals := 0 }
theorem in_X3_keepNext_X3 : ∀ w ∈ wsX30, w ∈ wsX3_keepNext := by decide +kernel
theorem in_X3_keepNext_X0 : ∀ w ∈ wsX00, w ∈ wsX3_keepNext := by decide +kernel
theorem lk_X3_keepNext_17 : Cond.fieldLink RX3 17 "CellCover$Library" "many" "I" ∈ wsX3_keepNext := by decide +kernel
theorem lk_X3_keepNext_11 : Cond.fieldLink RX3 11 "CellCover$Library" "cells" "[LCellCover$Cell;" ∈ wsX3_keepNext := by decide +kernel
theorem lk_X3_keepNext_22 : Cond.fieldLink RX3 22 "CellCover$Cell" "there" "Z" ∈ wsX3_keepNext := by decide +kernel
set_option maxHeartbeats 4000000 in
set_option maxRecDepth 100000 in
theorem c_X3_keepNext (l : Launch) (G : GT) (A : Nat → Prop) (S : St) (out : Int32 × St) (h : f_X3_keepNext S = some out) : Met l yX3_keepNext wsX3_keepNext rm_X3_keepNext (va_Pc [.ref (G.2.2 4 0)] (WD shC idsC G A S)) (QI shC idsC G A out) 0 0 A := by
  refine Met.ofW (cc := cX3_keepNext) (maxL := 2) (ret := (some .int)) (by decide) rfl ?_
  intro p e s m args below meth c s₁ B hml hv
  obtain ⟨rfl, hW, hK⟩ := hv
  have F : CallFix p m c cX3_keepNext 2 s _ wsX3_keepNext RX3 := ⟨B.exec, B.bytes, hml, findClass_of_methodNamed B.named, atoms_spec (ws := wsX3_keepNext) B.pre⟩
  have hr := B.returns
  have hlk := B.notSynchronized
  have hS : va_S A s.heap s.heap [] := va_S.rf
  have hl := lv_entry ([.ref (G.2.2 4 0)]) (n := 2) (Nat.le_of_ble_eq_true rfl)
  rw [lg_entry_eq]
  generalize (lg_sl ([.ref (G.2.2 4 0)]) ++ List.replicate (2 - (lg_sl ([.ref (G.2.2 4 0)])).length) Slot.unset).toArray = ls at hl ⊢
  have hl : lv_has ls 2 [(0, .ref (G.2.2 4 0))] := hl
  unfold f_X3_keepNext at h
  refine lv_aload_n F.1 F.2.1 dX3_keepNext_0 rfl (lv_at hl 0 rfl) ?_
  refine rw_get (q0 := 4) F hK hW idC_4 rfl rfl in_X3_keepNext_X3 1 (by decide) lk_X3_keepNext_17 rfl dX3_keepNext_1 ?_
  refine lv_topi (fun v_1 ev_1 => ?_)
  have h := lt_n ev_1 h
  refine lv_istore_n (lv' := [(1, .int v_1), (0, .ref (G.2.2 4 0))]) F.1 F.2.1 dX3_keepNext_4 rfl hl (by decide) rfl (fun ls hl => ?_)
  refine lv_aload_n F.1 F.2.1 dX3_keepNext_5 rfl (lv_at hl 1 rfl) ?_
  refine rw_get (q0 := 4) F hK hW idC_4 rfl rfl in_X3_keepNext_X3 0 (by decide) lk_X3_keepNext_11 rfl dX3_keepNext_6 ?_
  refine lv_iload_n F.1 F.2.1 dX3_keepNext_9 rfl (lv_at hl 0 rfl) ?_
  obtain ⟨b_2, h⟩ := gd_some h
  refine rw_aald (q0 := 44) F hK hW idC_24 (fun _ => rfl) (ix_in b_2) dX3_keepNext_10 ?_
  refine lv_iconst (v := 1) F.1 F.2.1 dX3_keepNext_11 (by decide) ?_
  refine rw_put ndC (q0 := 9 + v_1.toNatClampNeg) (x := 1) F hK hW hS (idC_8 _ (ix_lt b_2)) rfl rfl in_X3_keepNext_X0 tyX0 tyX0_ok nmX0 6 (by decide) lk_X3_keepNext_22 rfl (ty := .boolean) (by decide +kernel) (by decide) (by decide) (Nat.le_of_ble_eq_true rfl) rfl dX3_keepNext_12 (fun H locs S_3 eS_3 hW hS => ?_)
  have h := lt_n eS_3 h
  refine lv_aload_n F.1 F.2.1 dX3_keepNext_15 rfl (lv_at hl 1 rfl) ?_
  refine lv_dup F.1 F.2.1 dX3_keepNext_16 rfl ?_
  refine rw_get (q0 := 4) F hK hW idC_4 rfl rfl in_X3_keepNext_X3 1 (by decide) lk_X3_keepNext_17 rfl dX3_keepNext_17 ?_
  refine lv_iconst (v := 1) F.1 F.2.1 dX3_keepNext_20 (by decide) ?_
  refine lv_iadd F.1 F.2.1 dX3_keepNext_21 ?_
  refine rw_put ndC (q0 := 4) (x := (S_3 4 0 1) + 1) F hK hW hS idC_4 rfl rfl in_X3_keepNext_X3 tyX3 tyX3_ok nmX3 1 (by decide) lk_X3_keepNext_17 rfl (ty := .int) (by decide +kernel) rfl rfl (Nat.le_of_ble_eq_true rfl) rfl dX3_keepNext_22 (fun H locs S_4 eS_4 hW hS => ?_)
  have h := lt_n eS_4 h
  refine lv_iload_n F.1 F.2.1 dX3_keepNext_25 rfl (lv_at hl 0 rfl) ?_
  exact rw_ret F hr hlk hK hW hS h dX3_keepNext_26
/-! CellCover.cell()I -/
abbrev rm_X8_cell : Room := { frames := 3, cells := 0, slots := 0, locals := 67 }
theorem in_X8_cell_X8 : ∀ w ∈ wsX80, w ∈ wsX8_cell := by decide +kernel
theorem in_X8_cell_X3 : ∀ w ∈ wsX30, w ∈ wsX8_cell := by decide +kernel
theorem in_X8_cell_X6 : ∀ w ∈ wsX60, w ∈ wsX8_cell := by decide +kernel
theorem lk_X8_cell_33 : Cond.fieldLink RX8 33 "CellCover" "library" "LCellCover$Library;" ∈ wsX8_cell := by decide +kernel
theorem lk_X8_cell_124 : Cond.fieldLink RX8 124 "CellCover$Library" "many" "I" ∈ wsX8_cell := by decide +kernel
theorem lk_X8_cell_26 : Cond.fieldLink RX8 26 "CellCover" "tape" "LCellCover$Tape;" ∈ wsX8_cell := by decide +kernel
theorem lk_X8_cell_125 : Cond.fieldLink RX8 125 "CellCover$Library" "cells" "[LCellCover$Cell;" ∈ wsX8_cell := by decide +kernel
theorem lk_X8_cell_117 : Cond.fieldLink RX8 117 "CellCover$Tape" "length" "I" ∈ wsX8_cell := by decide +kernel
theorem lk_X8_cell_133 : Cond.fieldLink RX8 133 "CellCover$Tape" "place" "I" ∈ wsX8_cell := by decide +kernel
set_option maxHeartbeats 4000000 in
set_option maxRecDepth 100000 in
theorem c_X8_cell (l : Launch) (G : GT) (A : Nat → Prop) (S : St) (out : Int32 × St) (h : f_X8_cell S = some out) : Met l yX8_cell wsX8_cell rm_X8_cell (va_Pc [.ref (G.2.2 0 0)] (WD shC idsC G A S)) (QI shC idsC G A out) 0 0 A := by
  refine Met.ofW (cc := cX8_cell) (maxL := 2) (ret := (some .int)) (by decide) rfl ?_
  intro p e s m args below meth c s₁ B hml hv
  obtain ⟨rfl, hW, hK⟩ := hv
  have F : CallFix p m c cX8_cell 2 s _ wsX8_cell RX8 := ⟨B.exec, B.bytes, hml, findClass_of_methodNamed B.named, atoms_spec (ws := wsX8_cell) B.pre⟩
  have hr := B.returns
  have hlk := B.notSynchronized
  have hS : va_S A s.heap s.heap [] := va_S.rf
  have hl := lv_entry ([.ref (G.2.2 0 0)]) (n := 2) (Nat.le_of_ble_eq_true rfl)
  rw [lg_entry_eq]
  generalize (lg_sl ([.ref (G.2.2 0 0)]) ++ List.replicate (2 - (lg_sl ([.ref (G.2.2 0 0)])).length) Slot.unset).toArray = ls at hl ⊢
  have hl : lv_has ls 2 [(0, .ref (G.2.2 0 0))] := hl
  unfold f_X8_cell at h
  refine lv_aload_n F.1 F.2.1 dX8_cell_0 rfl (lv_at hl 0 rfl) ?_
  refine rw_get (q0 := 0) F hK hW idC_0 rfl rfl in_X8_cell_X8 3 (by decide) lk_X8_cell_33 rfl dX8_cell_1 ?_
  refine rw_get (q0 := 4) F hK hW idC_4 rfl rfl in_X8_cell_X3 1 (by decide) lk_X8_cell_124 rfl dX8_cell_4 ?_
  refine lv_bipush (v := 20) F.1 F.2.1 dX8_cell_7 (by decide) ?_
  refine lv_icmp_lt (tgt := 15) F.1 F.2.1 dX8_cell_9 (by decide) (fun c_1 => ?_) (fun c_1 => ?_)
  · have h := (if_pos c_1).symm.trans h
    refine lv_aload_n F.1 F.2.1 dX8_cell_15 rfl (lv_at hl 0 rfl) ?_
    refine rw_get (q0 := 0) F hK hW idC_0 rfl rfl in_X8_cell_X8 2 (by decide) lk_X8_cell_26 rfl dX8_cell_16 ?_
    refine lv_aload_n F.1 F.2.1 dX8_cell_19 rfl (lv_at hl 0 rfl) ?_
    refine rw_get (q0 := 0) F hK hW idC_0 rfl rfl in_X8_cell_X8 3 (by decide) lk_X8_cell_33 rfl dX8_cell_20 ?_
    refine rw_get (q0 := 4) F hK hW idC_4 rfl rfl in_X8_cell_X3 0 (by decide) lk_X8_cell_125 rfl dX8_cell_23 ?_
    refine lv_aload_n F.1 F.2.1 dX8_cell_26 rfl (lv_at hl 0 rfl) ?_
    refine rw_get (q0 := 0) F hK hW idC_0 rfl rfl in_X8_cell_X8 3 (by decide) lk_X8_cell_33 rfl dX8_cell_27 ?_
    refine rw_get (q0 := 4) F hK hW idC_4 rfl rfl in_X8_cell_X3 1 (by decide) lk_X8_cell_124 rfl dX8_cell_30 ?_
    obtain ⟨b_2, h⟩ := gd_some h
    refine rw_aald (q0 := 44) F hK hW idC_24 (fun _ => rfl) (ix_in b_2) dX8_cell_33 ?_
    obtain ⟨r_4, S_5, hq_3, h⟩ := bi_some h
    refine rw_vi F hK hW hS [.ref (G.2.2 8 ((S 4 0 1).toNatClampNeg))] (rest := []) (c_X6_readInto l G A ((S 4 0 1).toNatClampNeg) (ix_lt b_2) S (r_4, S_5) hq_3) (cwV 1 F.2.2.2.2 gX8_cell_X6_readInto rfl rfl rfl (by decide +kernel) ⟨Nat.le_of_ble_eq_true rfl, Nat.le_of_ble_eq_true rfl⟩) (rw_recv (q0 := 3) hK hW idC_3 rfl rfl) rfl hl.1 rfl (Nat.le_of_ble_eq_true rfl) dX8_cell_34 (fun H locs hW hS => ?_)
    refine lv_istore_n (lv' := [(1, .int r_4), (0, .ref (G.2.2 0 0))]) F.1 F.2.1 dX8_cell_37 rfl hl (by decide) rfl (fun ls hl => ?_)
    refine lv_aload_n F.1 F.2.1 dX8_cell_38 rfl (lv_at hl 1 rfl) ?_
    refine rw_get (q0 := 0) F hK hW idC_0 rfl rfl in_X8_cell_X8 2 (by decide) lk_X8_cell_26 rfl dX8_cell_39 ?_
    refine lv_iconst (v := 0) F.1 F.2.1 dX8_cell_42 (by decide) ?_
    refine rw_put ndC (q0 := 3) (x := 0) F hK hW hS idC_3 rfl rfl in_X8_cell_X6 tyX6 tyX6_ok nmX6 1 (by decide) lk_X8_cell_117 rfl (ty := .int) (by decide +kernel) rfl rfl (Nat.le_of_ble_eq_true rfl) rfl dX8_cell_43 (fun H locs S_6 eS_6 hW hS => ?_)
    have h := lt_n eS_6 h
    refine lv_iload_n F.1 F.2.1 dX8_cell_46 rfl (lv_at hl 0 rfl) ?_
    refine lv_if_ne (tgt := 61) F.1 F.2.1 dX8_cell_47 (by decide) (fun c_7 => ?_) (fun c_7 => ?_)
    · have h := (if_neg c_7).symm.trans h
      refine lv_aload_n F.1 F.2.1 dX8_cell_61 rfl (lv_at hl 1 rfl) ?_
      refine lv_iconst (v := 2) F.1 F.2.1 dX8_cell_62 (by decide) ?_
      obtain ⟨q_8, hq_8, h⟩ := bv_some h
      refine rw_vv F hK hW hS [.int 2] (rest := []) (c_X8_noteChange l G A 2 S_6 q_8 hq_8) (cwV 1 F.2.2.2.2 gX8_cell_X8_noteChange rfl rfl rfl (by decide +kernel) ⟨Nat.le_of_ble_eq_true rfl, Nat.le_of_ble_eq_true rfl⟩) (rw_recv (q0 := 0) hK hW idC_0 rfl rfl) rfl hl.1 rfl (Nat.le_of_ble_eq_true rfl) dX8_cell_63 (fun H locs hW hS => ?_)
      refine lv_aload_n F.1 F.2.1 dX8_cell_66 rfl (lv_at hl 1 rfl) ?_
      refine rw_get (q0 := 0) F hK hW idC_0 rfl rfl in_X8_cell_X8 3 (by decide) lk_X8_cell_33 rfl dX8_cell_67 ?_
      obtain ⟨r_11, S_12, hq_10, h⟩ := bi_some h
      refine rw_vi F hK hW hS [] (rest := []) (c_X3_keepNext l G A  q_8 (r_11, S_12) hq_10) (cwV 0 F.2.2.2.2 gX8_cell_X3_keepNext rfl rfl rfl (by decide +kernel) ⟨Nat.le_of_ble_eq_true rfl, Nat.le_of_ble_eq_true rfl⟩) (rw_recv (q0 := 4) hK hW idC_4 rfl rfl) rfl hl.1 rfl (Nat.le_of_ble_eq_true rfl) dX8_cell_70 (fun H locs hW hS => ?_)
      exact rw_ret F hr hlk hK hW hS h dX8_cell_73
    · have h := (if_pos c_7).symm.trans h
      refine lv_bipush (v := -100) F.1 F.2.1 dX8_cell_50 (by decide) ?_
      refine lv_aload_n F.1 F.2.1 dX8_cell_52 rfl (lv_at hl 1 rfl) ?_
      refine rw_get (q0 := 0) F hK hW idC_0 rfl rfl in_X8_cell_X8 2 (by decide) lk_X8_cell_26 rfl dX8_cell_53 ?_
      refine rw_get (q0 := 3) F hK hW idC_3 rfl rfl in_X8_cell_X6 2 (by decide) lk_X8_cell_133 rfl dX8_cell_56 ?_
      refine lv_isub F.1 F.2.1 dX8_cell_59 ?_
      exact rw_ret F hr hlk hK hW hS h dX8_cell_60
  · have h := (if_neg c_1).symm.trans h
    refine lv_bipush (v := -3) F.1 F.2.1 dX8_cell_12 (by decide) ?_
    exact rw_ret F hr hlk hK hW hS h dX8_cell_14
/-! CellCover.fault()I -/
abbrev rm_X8_fault : Room := { frames := 0, cells := 0, slots := 0, locals := 0 }
theorem in_X8_fault_X8 : ∀ w ∈ wsX80, w ∈ wsX8_fault := by decide +kernel
theorem in_X8_fault_X6 : ∀ w ∈ wsX60, w ∈ wsX8_fault := by decide +kernel
theorem lk_X8_fault_26 : Cond.fieldLink RX8 26 "CellCover" "tape" "LCellCover$Tape;" ∈ wsX8_fault := by decide +kernel
theorem lk_X8_fault_140 : Cond.fieldLink RX8 140 "CellCover$Tape" "fault" "I" ∈ wsX8_fault := by decide +kernel
set_option maxHeartbeats 4000000 in
set_option maxRecDepth 100000 in
theorem c_X8_fault (l : Launch) (G : GT) (A : Nat → Prop) (S : St) (out : Int32 × St) (h : f_X8_fault S = some out) : Met l yX8_fault wsX8_fault rm_X8_fault (va_Pc [.ref (G.2.2 0 0)] (WD shC idsC G A S)) (QI shC idsC G A out) 0 0 A := by
  refine Met.ofW (cc := cX8_fault) (maxL := 1) (ret := (some .int)) (by decide) rfl ?_
  intro p e s m args below meth c s₁ B hml hv
  obtain ⟨rfl, hW, hK⟩ := hv
  have F : CallFix p m c cX8_fault 1 s _ wsX8_fault RX8 := ⟨B.exec, B.bytes, hml, findClass_of_methodNamed B.named, atoms_spec (ws := wsX8_fault) B.pre⟩
  have hr := B.returns
  have hlk := B.notSynchronized
  have hS : va_S A s.heap s.heap [] := va_S.rf
  have hl := lv_entry ([.ref (G.2.2 0 0)]) (n := 1) (Nat.le_of_ble_eq_true rfl)
  rw [lg_entry_eq]
  generalize (lg_sl ([.ref (G.2.2 0 0)]) ++ List.replicate (1 - (lg_sl ([.ref (G.2.2 0 0)])).length) Slot.unset).toArray = ls at hl ⊢
  have hl : lv_has ls 1 [(0, .ref (G.2.2 0 0))] := hl
  unfold f_X8_fault at h
  refine lv_aload_n F.1 F.2.1 dX8_fault_0 rfl (lv_at hl 0 rfl) ?_
  refine rw_get (q0 := 0) F hK hW idC_0 rfl rfl in_X8_fault_X8 2 (by decide) lk_X8_fault_26 rfl dX8_fault_1 ?_
  refine rw_get (q0 := 3) F hK hW idC_3 rfl rfl in_X8_fault_X6 3 (by decide) lk_X8_fault_140 rfl dX8_fault_4 ?_
  exact rw_ret F hr hlk hK hW hS h dX8_fault_7
/-! CellCover$Library.has(I)Z -/
abbrev rm_X3_has : Room := { frames := 0, cells := 0, slots := 0, locals := 0 }
theorem in_X3_has_X3 : ∀ w ∈ wsX30, w ∈ wsX3_has := by decide +kernel
theorem in_X3_has_X0 : ∀ w ∈ wsX00, w ∈ wsX3_has := by decide +kernel
theorem lk_X3_has_17 : Cond.fieldLink RX3 17 "CellCover$Library" "many" "I" ∈ wsX3_has := by decide +kernel
theorem lk_X3_has_11 : Cond.fieldLink RX3 11 "CellCover$Library" "cells" "[LCellCover$Cell;" ∈ wsX3_has := by decide +kernel
theorem lk_X3_has_22 : Cond.fieldLink RX3 22 "CellCover$Cell" "there" "Z" ∈ wsX3_has := by decide +kernel
set_option maxHeartbeats 4000000 in
set_option maxRecDepth 100000 in
theorem w_X3_has_29 {p : Program} {l : Launch} {e : Env} {s : State} {m : MethodId} {args : Array Value} {below : List Frame} {meth : Method} {c : Code} {G : GT} {A : Nat → Prop} (F : CallFix p m c cX3_has 2 s args wsX3_has RX3) (hr : meth.sig.returnType = (some .boolean)) (hlk : meth.locks = false) (hK : va_K G.1 vwCl (tyl G) s) (out : Int32 × St) : ∀ (S : St) (y0 : Int32) (H : Heap) (locs : List Loc) (ls : Array Slot), Wd shC idsC G A S H → va_S A s.heap H locs → lv_has ls 2 [] → j_X3_has_29 S y0 = some out → W p l e rm_X3_has s m args below meth c H locs 0 0 (MQ below (QI shC idsC G A out) args s 0 0 A) (F0 m 29 ls [.int y0]) := by
  intro S y0 H locs ls hW hS hl h
  unfold j_X3_has_29 at h
  obtain ⟨b_2, h⟩ := gd_some h
  exact rw_retz F hr hlk hK hW hS b_2 h dX3_has_29
set_option maxHeartbeats 4000000 in
set_option maxRecDepth 100000 in
theorem w_X3_has_28 {p : Program} {l : Launch} {e : Env} {s : State} {m : MethodId} {args : Array Value} {below : List Frame} {meth : Method} {c : Code} {G : GT} {A : Nat → Prop} (F : CallFix p m c cX3_has 2 s args wsX3_has RX3) (hr : meth.sig.returnType = (some .boolean)) (hlk : meth.locks = false) (hK : va_K G.1 vwCl (tyl G) s) (out : Int32 × St) : ∀ (S : St) (H : Heap) (locs : List Loc) (ls : Array Slot), Wd shC idsC G A S H → va_S A s.heap H locs → lv_has ls 2 [] → j_X3_has_28 S = some out → W p l e rm_X3_has s m args below meth c H locs 0 0 (MQ below (QI shC idsC G A out) args s 0 0 A) (F0 m 28 ls []) := by
  intro S H locs ls hW hS hl h
  unfold j_X3_has_28 at h
  refine lv_iconst (v := 0) F.1 F.2.1 dX3_has_28 (by decide) ?_
  exact w_X3_has_29 F hr hlk hK out  _ _ _ _ _  hW hS hl h
set_option maxHeartbeats 4000000 in
set_option maxRecDepth 100000 in
theorem c_X3_has (l : Launch) (G : GT) (A : Nat → Prop) (a0 : Int32) (S : St) (out : Int32 × St) (h : f_X3_has a0 S = some out) : Met l yX3_has wsX3_has rm_X3_has (va_Pc [.ref (G.2.2 4 0), .int a0] (WD shC idsC G A S)) (QI shC idsC G A out) 0 0 A := by
  refine Met.ofW (cc := cX3_has) (maxL := 2) (ret := (some .boolean)) (by decide) rfl ?_
  intro p e s m args below meth c s₁ B hml hv
  obtain ⟨rfl, hW, hK⟩ := hv
  have F : CallFix p m c cX3_has 2 s _ wsX3_has RX3 := ⟨B.exec, B.bytes, hml, findClass_of_methodNamed B.named, atoms_spec (ws := wsX3_has) B.pre⟩
  have hr := B.returns
  have hlk := B.notSynchronized
  have hS : va_S A s.heap s.heap [] := va_S.rf
  have hl := lv_entry ([.ref (G.2.2 4 0), .int a0]) (n := 2) (Nat.le_of_ble_eq_true rfl)
  rw [lg_entry_eq]
  generalize (lg_sl ([.ref (G.2.2 4 0), .int a0]) ++ List.replicate (2 - (lg_sl ([.ref (G.2.2 4 0), .int a0])).length) Slot.unset).toArray = ls at hl ⊢
  have hl : lv_has ls 2 [(0, .ref (G.2.2 4 0)), (1, .int a0)] := hl
  unfold f_X3_has at h
  refine lv_iload_n F.1 F.2.1 dX3_has_0 rfl (lv_at hl 1 rfl) ?_
  refine lv_if_lt (tgt := 28) F.1 F.2.1 dX3_has_1 (by decide) (fun c_1 => ?_) (fun c_1 => ?_)
  · have h := (if_pos c_1).symm.trans h
    exact w_X3_has_28 F hr hlk hK out  _ _ _ _  hW hS (lv_sub hl [] rfl) h
  · have h := (if_neg c_1).symm.trans h
    refine lv_iload_n F.1 F.2.1 dX3_has_4 rfl (lv_at hl 1 rfl) ?_
    refine lv_aload_n F.1 F.2.1 dX3_has_5 rfl (lv_at hl 0 rfl) ?_
    refine rw_get (q0 := 4) F hK hW idC_4 rfl rfl in_X3_has_X3 1 (by decide) lk_X3_has_17 rfl dX3_has_6 ?_
    refine lv_icmp_ge (tgt := 28) F.1 F.2.1 dX3_has_9 (by decide) (fun c_3 => ?_) (fun c_3 => ?_)
    · have h := (if_pos c_3).symm.trans h
      exact w_X3_has_28 F hr hlk hK out  _ _ _ _  hW hS (lv_sub hl [] rfl) h
    · have h := (if_neg c_3).symm.trans h
      refine lv_aload_n F.1 F.2.1 dX3_has_12 rfl (lv_at hl 0 rfl) ?_
      refine rw_get (q0 := 4) F hK hW idC_4 rfl rfl in_X3_has_X3 0 (by decide) lk_X3_has_11 rfl dX3_has_13 ?_
      refine lv_iload_n F.1 F.2.1 dX3_has_16 rfl (lv_at hl 1 rfl) ?_
      obtain ⟨b_4, h⟩ := gd_some h
      refine rw_aald (q0 := 44) F hK hW idC_24 (fun _ => rfl) (ix_in b_4) dX3_has_17 ?_
      refine rw_get (q0 := 9 + a0.toNatClampNeg) F hK hW (idC_8 _ (ix_lt b_4)) rfl rfl in_X3_has_X0 6 (by decide) lk_X3_has_22 rfl dX3_has_18 ?_
      refine lv_if_eq (tgt := 28) F.1 F.2.1 dX3_has_21 (by decide) (fun c_5 => ?_) (fun c_5 => ?_)
      · have h := (if_pos c_5).symm.trans h
        exact w_X3_has_28 F hr hlk hK out  _ _ _ _  hW hS (lv_sub hl [] rfl) h
      · have h := (if_neg c_5).symm.trans h
        refine lv_iconst (v := 1) F.1 F.2.1 dX3_has_24 (by decide) ?_
        refine lv_goto (tgt := 29) F.1 F.2.1 dX3_has_25 (by decide) ?_
        exact w_X3_has_29 F hr hlk hK out  _ _ _ _ _  hW hS (lv_sub hl [] rfl) h
