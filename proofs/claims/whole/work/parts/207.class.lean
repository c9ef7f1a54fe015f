/-! CellCover$Net.outputsFor(J)I -/
abbrev rm_X5_outputsFor : Room := { frames := 1, cells := 0, slots := 0, locals := 23 }
theorem in_X5_outputsFor_X5 : ∀ w ∈ wsX50, w ∈ wsX5_outputsFor := by decide +kernel
theorem lk_X5_outputsFor_36 : Cond.fieldLink RX5 36 "CellCover$Net" "nodes" "I" ∈ wsX5_outputsFor := by decide +kernel
theorem lk_X5_outputsFor_9 : Cond.fieldLink RX5 9 "CellCover$Net" "kind" "[I" ∈ wsX5_outputsFor := by decide +kernel
theorem lk_X5_outputsFor_24 : Cond.fieldLink RX5 24 "CellCover$Net" "value" "[I" ∈ wsX5_outputsFor := by decide +kernel
theorem lk_X5_outputsFor_15 : Cond.fieldLink RX5 15 "CellCover$Net" "partA" "[I" ∈ wsX5_outputsFor := by decide +kernel
theorem lk_X5_outputsFor_18 : Cond.fieldLink RX5 18 "CellCover$Net" "partB" "[I" ∈ wsX5_outputsFor := by decide +kernel
theorem lk_X5_outputsFor_21 : Cond.fieldLink RX5 21 "CellCover$Net" "partC" "[I" ∈ wsX5_outputsFor := by decide +kernel
theorem lk_X5_outputsFor_43 : Cond.fieldLink RX5 43 "CellCover$Net" "outputs" "I" ∈ wsX5_outputsFor := by decide +kernel
theorem lk_X5_outputsFor_27 : Cond.fieldLink RX5 27 "CellCover$Net" "outputNode" "[I" ∈ wsX5_outputsFor := by decide +kernel
set_option maxHeartbeats 4000000 in
set_option maxRecDepth 100000 in
theorem w_X5_outputsFor_97 {p : Program} {l : Launch} {e : Env} {s : State} {m : MethodId} {args : Array Value} {below : List Frame} {meth : Method} {c : Code} {G : GT} {A : Nat → Prop} (F : CallFix p m c cX5_outputsFor 7 s args wsX5_outputsFor RX5) (hr : meth.sig.returnType = (some .int)) (hlk : meth.locks = false) (hK : va_K G.1 vwCl (tyl G) s) (out : Int32 × St) (kb : St → Int64 → Int32 → Option (Int32 × St)) (k103 : St → Option (Int32 × St)) (Kb : ∀ (S : St) (x3 : Int64) (x5 : Int32) (H : Heap) (locs : List Loc) (ls : Array Slot), Wd shC idsC G A S H → va_S A s.heap H locs → lv_has ls 7 [(0, .ref (G.2.2 2 0)), (3, .long x3), (5, .int x5)] → kb S x3 x5 = some out → W p l e rm_X5_outputsFor s m args below meth c H locs 0 0 (MQ below (QI shC idsC G A out) args s 0 0 A) (F0 m 5 ls [])) (K103 : ∀ (S : St) (H : Heap) (locs : List Loc) (ls : Array Slot), Wd shC idsC G A S H → va_S A s.heap H locs → lv_has ls 7 [(0, .ref (G.2.2 2 0))] → k103 S = some out → W p l e rm_X5_outputsFor s m args below meth c H locs 0 0 (MQ below (QI shC idsC G A out) args s 0 0 A) (F0 m 103 ls [])) : ∀ (S : St) (x3 : Int64) (x5 : Int32) (H : Heap) (locs : List Loc) (ls : Array Slot), Wd shC idsC G A S H → va_S A s.heap H locs → lv_has ls 7 [(0, .ref (G.2.2 2 0)), (3, .long x3), (5, .int x5)] → j_X5_outputsFor_97 kb k103 S x3 x5 = some out → W p l e rm_X5_outputsFor s m args below meth c H locs 0 0 (MQ below (QI shC idsC G A out) args s 0 0 A) (F0 m 97 ls []) := by
  intro S x3 x5 H locs ls hW hS hl h
  unfold j_X5_outputsFor_97 at h
  obtain ⟨v_24, ev_24⟩ : ∃ y : Int32, y = x5 + 1 := ⟨_, rfl⟩
  have h := lt_n ev_24 h
  refine lv_iinc (v := v_24) (lv' := [(5, .int v_24), (0, .ref (G.2.2 2 0)), (3, .long x3)]) F.1 F.2.1 dX5_outputsFor_97 hl (k := 2) rfl (by rw [ev_24]; rfl) (by decide) rfl (fun ls hl => ?_)
  refine lv_goto (tgt := 5) F.1 F.2.1 dX5_outputsFor_100 (by decide) ?_
  exact Kb _ _ _ _ _ _  hW hS (lv_sub hl [1, 2, 0] rfl) h
set_option maxHeartbeats 4000000 in
set_option maxRecDepth 100000 in
theorem w_X5_outputsFor_5 {p : Program} {l : Launch} {e : Env} {s : State} {m : MethodId} {args : Array Value} {below : List Frame} {meth : Method} {c : Code} {G : GT} {A : Nat → Prop} (F : CallFix p m c cX5_outputsFor 7 s args wsX5_outputsFor RX5) (hr : meth.sig.returnType = (some .int)) (hlk : meth.locks = false) (hK : va_K G.1 vwCl (tyl G) s) (out : Int32 × St) (k103 : St → Option (Int32 × St)) (K103 : ∀ (S : St) (H : Heap) (locs : List Loc) (ls : Array Slot), Wd shC idsC G A S H → va_S A s.heap H locs → lv_has ls 7 [(0, .ref (G.2.2 2 0))] → k103 S = some out → W p l e rm_X5_outputsFor s m args below meth c H locs 0 0 (MQ below (QI shC idsC G A out) args s 0 0 A) (F0 m 103 ls [])) : ∀ n : Nat, ∀ (S : St) (x3 : Int64) (x5 : Int32) (H : Heap) (locs : List Loc) (ls : Array Slot), Wd shC idsC G A S H → va_S A s.heap H locs → lv_has ls 7 [(0, .ref (G.2.2 2 0)), (3, .long x3), (5, .int x5)] → l_X5_outputsFor_5 k103 n S x3 x5 = some out → W p l e rm_X5_outputsFor s m args below meth c H locs 0 0 (MQ below (QI shC idsC G A out) args s 0 0 A) (F0 m 5 ls []) := by
  intro n
  induction n with
  | zero =>
    intro S x3 x5 H locs ls hW hS hl h
    cases h
  | succ n Kb =>
    generalize hkb : l_X5_outputsFor_5 k103 n = kb at Kb
    intro S x3 x5 H locs ls hW hS hl h
    rw [show l_X5_outputsFor_5 k103 (n + 1) = b_X5_outputsFor_5 (l_X5_outputsFor_5 k103 n) k103 from rfl, hkb] at h
    unfold b_X5_outputsFor_5 at h
    refine lv_iload F.1 F.2.1 dX5_outputsFor_5 (lv_at hl 2 rfl) ?_
    refine lv_aload_n F.1 F.2.1 dX5_outputsFor_7 rfl (lv_at hl 0 rfl) ?_
    refine rw_get (q0 := 2) F hK hW idC_2 rfl rfl in_X5_outputsFor_X5 8 (by decide) lk_X5_outputsFor_36 rfl dX5_outputsFor_8 ?_
    refine lv_icmp_ge (tgt := 103) F.1 F.2.1 dX5_outputsFor_11 (by decide) (fun c_1 => ?_) (fun c_1 => ?_)
    · have h := (if_pos c_1).symm.trans h
      exact K103 _ _ _ _  hW hS (lv_sub hl [0] rfl) h
    · have h := (if_neg c_1).symm.trans h
      refine lv_aload_n F.1 F.2.1 dX5_outputsFor_14 rfl (lv_at hl 0 rfl) ?_
      refine rw_get (q0 := 2) F hK hW idC_2 rfl rfl in_X5_outputsFor_X5 0 (by decide) lk_X5_outputsFor_9 rfl dX5_outputsFor_15 ?_
      refine lv_iload F.1 F.2.1 dX5_outputsFor_18 (lv_at hl 2 rfl) ?_
      obtain ⟨b_2, h⟩ := gd_some h
      refine rw_iald (q0 := 35) F hK hW idC_15 (fun _ => rfl) (ix_in b_2) dX5_outputsFor_20 ?_
      refine lv_topi (fun v_3 ev_3 => ?_)
      have h := lt_n ev_3 h
      refine lv_bipush (v := 7) F.1 F.2.1 dX5_outputsFor_21 (by decide) ?_
      refine lv_icmp_ne (tgt := 44) F.1 F.2.1 dX5_outputsFor_23 (by decide) (fun c_4 => ?_) (fun c_4 => ?_)
      · have h := (if_neg c_4).symm.trans h
        refine lv_aload_n F.1 F.2.1 dX5_outputsFor_44 rfl (lv_at hl 0 rfl) ?_
        refine rw_get (q0 := 2) F hK hW idC_2 rfl rfl in_X5_outputsFor_X5 4 (by decide) lk_X5_outputsFor_24 rfl dX5_outputsFor_45 ?_
        refine lv_iload F.1 F.2.1 dX5_outputsFor_48 (lv_at hl 2 rfl) ?_
        refine lv_aload_n F.1 F.2.1 dX5_outputsFor_50 rfl (lv_at hl 0 rfl) ?_
        refine rw_get (q0 := 2) F hK hW idC_2 rfl rfl in_X5_outputsFor_X5 0 (by decide) lk_X5_outputsFor_9 rfl dX5_outputsFor_51 ?_
        refine lv_iload F.1 F.2.1 dX5_outputsFor_54 (lv_at hl 2 rfl) ?_
        obtain ⟨b_5, h⟩ := gd_some h
        refine rw_iald (q0 := 35) F hK hW idC_15 (fun _ => rfl) (ix_in b_5) dX5_outputsFor_56 ?_
        refine lv_topi (fun v_6 ev_6 => ?_)
        have h := lt_n ev_6 h
        refine lv_aload_n F.1 F.2.1 dX5_outputsFor_57 rfl (lv_at hl 0 rfl) ?_
        refine rw_get (q0 := 2) F hK hW idC_2 rfl rfl in_X5_outputsFor_X5 4 (by decide) lk_X5_outputsFor_24 rfl dX5_outputsFor_58 ?_
        refine lv_aload_n F.1 F.2.1 dX5_outputsFor_61 rfl (lv_at hl 0 rfl) ?_
        refine rw_get (q0 := 2) F hK hW idC_2 rfl rfl in_X5_outputsFor_X5 1 (by decide) lk_X5_outputsFor_15 rfl dX5_outputsFor_62 ?_
        refine lv_iload F.1 F.2.1 dX5_outputsFor_65 (lv_at hl 2 rfl) ?_
        obtain ⟨b_7, h⟩ := gd_some h
        refine rw_iald (q0 := 36) F hK hW idC_16 (fun _ => rfl) (ix_in b_7) dX5_outputsFor_67 ?_
        refine lv_topi (fun v_8 ev_8 => ?_)
        have h := lt_n ev_8 h
        obtain ⟨b_9, h⟩ := gd_some h
        refine rw_iald (q0 := 39) F hK hW idC_19 (fun _ => rfl) (ix_in b_9) dX5_outputsFor_68 ?_
        refine lv_topi (fun v_10 ev_10 => ?_)
        have h := lt_n ev_10 h
        refine lv_aload_n F.1 F.2.1 dX5_outputsFor_69 rfl (lv_at hl 0 rfl) ?_
        refine rw_get (q0 := 2) F hK hW idC_2 rfl rfl in_X5_outputsFor_X5 4 (by decide) lk_X5_outputsFor_24 rfl dX5_outputsFor_70 ?_
        refine lv_aload_n F.1 F.2.1 dX5_outputsFor_73 rfl (lv_at hl 0 rfl) ?_
        refine rw_get (q0 := 2) F hK hW idC_2 rfl rfl in_X5_outputsFor_X5 2 (by decide) lk_X5_outputsFor_18 rfl dX5_outputsFor_74 ?_
        refine lv_iload F.1 F.2.1 dX5_outputsFor_77 (lv_at hl 2 rfl) ?_
        obtain ⟨b_11, h⟩ := gd_some h
        refine rw_iald (q0 := 37) F hK hW idC_17 (fun _ => rfl) (ix_in b_11) dX5_outputsFor_79 ?_
        refine lv_topi (fun v_12 ev_12 => ?_)
        have h := lt_n ev_12 h
        obtain ⟨b_13, h⟩ := gd_some h
        refine rw_iald (q0 := 39) F hK hW idC_19 (fun _ => rfl) (ix_in b_13) dX5_outputsFor_80 ?_
        refine lv_topi (fun v_14 ev_14 => ?_)
        have h := lt_n ev_14 h
        refine lv_aload_n F.1 F.2.1 dX5_outputsFor_81 rfl (lv_at hl 0 rfl) ?_
        refine rw_get (q0 := 2) F hK hW idC_2 rfl rfl in_X5_outputsFor_X5 4 (by decide) lk_X5_outputsFor_24 rfl dX5_outputsFor_82 ?_
        refine lv_aload_n F.1 F.2.1 dX5_outputsFor_85 rfl (lv_at hl 0 rfl) ?_
        refine rw_get (q0 := 2) F hK hW idC_2 rfl rfl in_X5_outputsFor_X5 3 (by decide) lk_X5_outputsFor_21 rfl dX5_outputsFor_86 ?_
        refine lv_iload F.1 F.2.1 dX5_outputsFor_89 (lv_at hl 2 rfl) ?_
        obtain ⟨b_15, h⟩ := gd_some h
        refine rw_iald (q0 := 38) F hK hW idC_18 (fun _ => rfl) (ix_in b_15) dX5_outputsFor_91 ?_
        refine lv_topi (fun v_16 ev_16 => ?_)
        have h := lt_n ev_16 h
        obtain ⟨b_17, h⟩ := gd_some h
        refine rw_iald (q0 := 39) F hK hW idC_19 (fun _ => rfl) (ix_in b_17) dX5_outputsFor_92 ?_
        refine lv_topi (fun v_18 ev_18 => ?_)
        have h := lt_n ev_18 h
        obtain ⟨r_20, S_21, hq_19, h⟩ := bi_some h
        refine rw_si F hK hW hS [.int v_6, .int v_10, .int v_14, .int v_18] (rest := [.int x5, .ref (G.2.2 19 0)]) (c_X5_gateValue l G A v_6 v_10 v_14 v_18 S (r_20, S_21) hq_19) (va_cwS 4 F.2.2.2.2 gX5_outputsFor_X5_gateValue rfl rfl rfl (by decide +kernel) ⟨Nat.le_of_ble_eq_true rfl, Nat.le_of_ble_eq_true rfl⟩) rfl hl.1 rfl (Nat.le_of_ble_eq_true rfl) dX5_outputsFor_93 (fun H locs hW hS => ?_)
        obtain ⟨b_22, h⟩ := gd_some h
        refine rw_iast ndC (q0 := 39) F hK hW hS idC_19 (fun _ => rfl) (ix_in b_22) dX5_outputsFor_96 (fun H locs S_23 eS_23 hW hS => ?_)
        have h := lt_n eS_23 h
        exact w_X5_outputsFor_97 F hr hlk hK out kb k103 Kb K103 _ _ _ _ _ _  hW hS hl h
      · have h := (if_pos c_4).symm.trans h
        refine lv_aload_n F.1 F.2.1 dX5_outputsFor_26 rfl (lv_at hl 0 rfl) ?_
        refine rw_get (q0 := 2) F hK hW idC_2 rfl rfl in_X5_outputsFor_X5 4 (by decide) lk_X5_outputsFor_24 rfl dX5_outputsFor_27 ?_
        refine lv_iload F.1 F.2.1 dX5_outputsFor_30 (lv_at hl 2 rfl) ?_
        refine lv_lload_n F.1 F.2.1 dX5_outputsFor_32 rfl (lv_at hl 1 rfl) ?_
        refine lv_lconst (v := 1) F.1 F.2.1 dX5_outputsFor_33 (by decide) ?_
        refine lv_land F.1 F.2.1 dX5_outputsFor_34 ?_
        refine lv_l2i (v := (x3 &&& 1).toInt32) F.1 F.2.1 dX5_outputsFor_35 rfl ?_
        obtain ⟨b_25, h⟩ := gd_some h
        refine rw_iast ndC (q0 := 39) F hK hW hS idC_19 (fun _ => rfl) (ix_in b_25) dX5_outputsFor_36 (fun H locs S_26 eS_26 hW hS => ?_)
        have h := lt_n eS_26 h
        refine lv_lload_n F.1 F.2.1 dX5_outputsFor_37 rfl (lv_at hl 1 rfl) ?_
        refine lv_iconst (v := 1) F.1 F.2.1 dX5_outputsFor_38 (by decide) ?_
        refine lv_lushr (v := (x3.toUInt64 >>> ((1 : Int32).toInt64.toUInt64 &&& Int64.toUInt64 63)).toInt64) F.1 F.2.1 dX5_outputsFor_39 rfl ?_
        refine lv_topl (fun v_27 ev_27 => ?_)
        have h := lt_n ev_27 h
        refine lv_lstore_n (lv' := [(3, .long v_27), (0, .ref (G.2.2 2 0)), (5, .int x5)]) F.1 F.2.1 dX5_outputsFor_40 rfl hl (by decide) rfl (fun ls hl => ?_)
        refine lv_goto (tgt := 97) F.1 F.2.1 dX5_outputsFor_41 (by decide) ?_
        exact w_X5_outputsFor_97 F hr hlk hK out kb k103 Kb K103 _ _ _ _ _ _  hW hS (lv_sub hl [1, 0, 2] rfl) h
set_option maxHeartbeats 4000000 in
set_option maxRecDepth 100000 in
theorem w_X5_outputsFor_109 {p : Program} {l : Launch} {e : Env} {s : State} {m : MethodId} {args : Array Value} {below : List Frame} {meth : Method} {c : Code} {G : GT} {A : Nat → Prop} (F : CallFix p m c cX5_outputsFor 7 s args wsX5_outputsFor RX5) (hr : meth.sig.returnType = (some .int)) (hlk : meth.locks = false) (hK : va_K G.1 vwCl (tyl G) s) (out : Int32 × St) : ∀ n : Nat, ∀ (S : St) (x5 : Int32) (x6 : Int32) (H : Heap) (locs : List Loc) (ls : Array Slot), Wd shC idsC G A S H → va_S A s.heap H locs → lv_has ls 7 [(0, .ref (G.2.2 2 0)), (5, .int x5), (6, .int x6)] → l_X5_outputsFor_109 n S x5 x6 = some out → W p l e rm_X5_outputsFor s m args below meth c H locs 0 0 (MQ below (QI shC idsC G A out) args s 0 0 A) (F0 m 109 ls []) := by
  intro n
  induction n with
  | zero =>
    intro S x5 x6 H locs ls hW hS hl h
    cases h
  | succ n Kb =>
    generalize hkb : l_X5_outputsFor_109 n = kb at Kb
    intro S x5 x6 H locs ls hW hS hl h
    rw [show l_X5_outputsFor_109 (n + 1) = b_X5_outputsFor_109 (l_X5_outputsFor_109 n) from rfl, hkb] at h
    unfold b_X5_outputsFor_109 at h
    refine lv_iload F.1 F.2.1 dX5_outputsFor_109 (lv_at hl 2 rfl) ?_
    refine lv_aload_n F.1 F.2.1 dX5_outputsFor_111 rfl (lv_at hl 0 rfl) ?_
    refine rw_get (q0 := 2) F hK hW idC_2 rfl rfl in_X5_outputsFor_X5 10 (by decide) lk_X5_outputsFor_43 rfl dX5_outputsFor_112 ?_
    refine lv_icmp_ge (tgt := 144) F.1 F.2.1 dX5_outputsFor_115 (by decide) (fun c_28 => ?_) (fun c_28 => ?_)
    · have h := (if_pos c_28).symm.trans h
      refine lv_iload F.1 F.2.1 dX5_outputsFor_144 (lv_at hl 1 rfl) ?_
      exact rw_ret F hr hlk hK hW hS h dX5_outputsFor_146
    · have h := (if_neg c_28).symm.trans h
      refine lv_iload F.1 F.2.1 dX5_outputsFor_118 (lv_at hl 1 rfl) ?_
      refine lv_aload_n F.1 F.2.1 dX5_outputsFor_120 rfl (lv_at hl 0 rfl) ?_
      refine rw_get (q0 := 2) F hK hW idC_2 rfl rfl in_X5_outputsFor_X5 4 (by decide) lk_X5_outputsFor_24 rfl dX5_outputsFor_121 ?_
      refine lv_aload_n F.1 F.2.1 dX5_outputsFor_124 rfl (lv_at hl 0 rfl) ?_
      refine rw_get (q0 := 2) F hK hW idC_2 rfl rfl in_X5_outputsFor_X5 5 (by decide) lk_X5_outputsFor_27 rfl dX5_outputsFor_125 ?_
      refine lv_iload F.1 F.2.1 dX5_outputsFor_128 (lv_at hl 2 rfl) ?_
      obtain ⟨b_29, h⟩ := gd_some h
      refine rw_iald (q0 := 40) F hK hW idC_20 (fun _ => rfl) (ix_in b_29) dX5_outputsFor_130 ?_
      refine lv_topi (fun v_30 ev_30 => ?_)
      have h := lt_n ev_30 h
      obtain ⟨b_31, h⟩ := gd_some h
      refine rw_iald (q0 := 39) F hK hW idC_19 (fun _ => rfl) (ix_in b_31) dX5_outputsFor_131 ?_
      refine lv_topi (fun v_32 ev_32 => ?_)
      have h := lt_n ev_32 h
      refine lv_iload F.1 F.2.1 dX5_outputsFor_132 (lv_at hl 2 rfl) ?_
      refine lv_ishl F.1 F.2.1 dX5_outputsFor_134 ?_
      refine lv_ior F.1 F.2.1 dX5_outputsFor_135 ?_
      refine lv_topi (fun v_33 ev_33 => ?_)
      have h := lt_n ev_33 h
      refine lv_istore (lv' := [(5, .int v_33), (0, .ref (G.2.2 2 0)), (6, .int x6)]) F.1 F.2.1 dX5_outputsFor_136 hl (by decide) rfl (fun ls hl => ?_)
      obtain ⟨v_34, ev_34⟩ : ∃ y : Int32, y = x6 + 1 := ⟨_, rfl⟩
      have h := lt_n ev_34 h
      refine lv_iinc (v := v_34) (lv' := [(6, .int v_34), (5, .int v_33), (0, .ref (G.2.2 2 0))]) F.1 F.2.1 dX5_outputsFor_138 hl (k := 2) rfl (by rw [ev_34]; rfl) (by decide) rfl (fun ls hl => ?_)
      refine lv_goto (tgt := 109) F.1 F.2.1 dX5_outputsFor_141 (by decide) ?_
      exact Kb _ _ _ _ _ _  hW hS (lv_sub hl [2, 1, 0] rfl) h
set_option maxHeartbeats 4000000 in
set_option maxRecDepth 100000 in
theorem c_X5_outputsFor (l : Launch) (G : GT) (A : Nat → Prop) (a0 : Int64) (S : St) (out : Int32 × St) (h : f_X5_outputsFor a0 S = some out) : Met l yX5_outputsFor wsX5_outputsFor rm_X5_outputsFor (va_Pc [.ref (G.2.2 2 0), .long a0] (WD shC idsC G A S)) (QI shC idsC G A out) 0 0 A := by
  refine Met.ofW (cc := cX5_outputsFor) (maxL := 7) (ret := (some .int)) (by decide) rfl ?_
  intro p e s m args below meth c s₁ B hml hv
  obtain ⟨rfl, hW, hK⟩ := hv
  have F : CallFix p m c cX5_outputsFor 7 s _ wsX5_outputsFor RX5 := ⟨B.exec, B.bytes, hml, findClass_of_methodNamed B.named, atoms_spec (ws := wsX5_outputsFor) B.pre⟩
  have hr := B.returns
  have hlk := B.notSynchronized
  have hS : va_S A s.heap s.heap [] := va_S.rf
  have hl := lv_entry ([.ref (G.2.2 2 0), .long a0]) (n := 7) (Nat.le_of_ble_eq_true rfl)
  rw [lg_entry_eq]
  generalize (lg_sl ([.ref (G.2.2 2 0), .long a0]) ++ List.replicate (7 - (lg_sl ([.ref (G.2.2 2 0), .long a0])).length) Slot.unset).toArray = ls at hl ⊢
  have hl : lv_has ls 7 [(0, .ref (G.2.2 2 0)), (1, .long a0)] := hl
  unfold f_X5_outputsFor at h
  refine lv_lload_n F.1 F.2.1 dX5_outputsFor_0 rfl (lv_at hl 1 rfl) ?_
  refine lv_lstore_n (lv' := [(3, .long a0), (0, .ref (G.2.2 2 0)), (1, .long a0)]) F.1 F.2.1 dX5_outputsFor_1 rfl hl (by decide) rfl (fun ls hl => ?_)
  refine lv_iconst (v := 0) F.1 F.2.1 dX5_outputsFor_2 (by decide) ?_
  refine lv_istore (lv' := [(5, .int 0), (3, .long a0), (0, .ref (G.2.2 2 0)), (1, .long a0)]) F.1 F.2.1 dX5_outputsFor_3 hl (by decide) rfl (fun ls hl => ?_)
  refine w_X5_outputsFor_5 F hr hlk hK out _ ?_ 5000 _ _ _ _ _ _  hW hS (lv_sub hl [2, 1, 0] rfl) h
  · intro S H locs ls hW hS hl h
    refine lv_iconst (v := 0) F.1 F.2.1 dX5_outputsFor_103 (by decide) ?_
    refine lv_istore (lv' := [(5, .int 0), (0, .ref (G.2.2 2 0))]) F.1 F.2.1 dX5_outputsFor_104 hl (by decide) rfl (fun ls hl => ?_)
    refine lv_iconst (v := 0) F.1 F.2.1 dX5_outputsFor_106 (by decide) ?_
    refine lv_istore (lv' := [(6, .int 0), (5, .int 0), (0, .ref (G.2.2 2 0))]) F.1 F.2.1 dX5_outputsFor_107 hl (by decide) rfl (fun ls hl => ?_)
    refine w_X5_outputsFor_109 F hr hlk hK out   5000 _ _ _ _ _ _  hW hS (lv_sub hl [2, 1, 0] rfl) h
/-! CellCover.run(J)I -/
abbrev rm_X8_run : Room := { frames := 2, cells := 0, slots := 0, locals := 49 }
theorem in_X8_run_X8 : ∀ w ∈ wsX80, w ∈ wsX8_run := by decide +kernel
theorem lk_X8_run_19 : Cond.fieldLink RX8 19 "CellCover" "net" "LCellCover$Net;" ∈ wsX8_run := by decide +kernel
set_option maxHeartbeats 4000000 in
set_option maxRecDepth 100000 in
theorem c_X8_run (l : Launch) (G : GT) (A : Nat → Prop) (a0 : Int64) (S : St) (out : Int32 × St) (h : f_X8_run a0 S = some out) : Met l yX8_run wsX8_run rm_X8_run (va_Pc [.ref (G.2.2 0 0), .long a0] (WD shC idsC G A S)) (QI shC idsC G A out) 0 0 A := by
  refine Met.ofW (cc := cX8_run) (maxL := 3) (ret := (some .int)) (by decide) rfl ?_
  intro p e s m args below meth c s₁ B hml hv
  obtain ⟨rfl, hW, hK⟩ := hv
  have F : CallFix p m c cX8_run 3 s _ wsX8_run RX8 := ⟨B.exec, B.bytes, hml, findClass_of_methodNamed B.named, atoms_spec (ws := wsX8_run) B.pre⟩
  have hr := B.returns
  have hlk := B.notSynchronized
  have hS : va_S A s.heap s.heap [] := va_S.rf
  have hl := lv_entry ([.ref (G.2.2 0 0), .long a0]) (n := 3) (Nat.le_of_ble_eq_true rfl)
  rw [lg_entry_eq]
  generalize (lg_sl ([.ref (G.2.2 0 0), .long a0]) ++ List.replicate (3 - (lg_sl ([.ref (G.2.2 0 0), .long a0])).length) Slot.unset).toArray = ls at hl ⊢
  have hl : lv_has ls 3 [(0, .ref (G.2.2 0 0)), (1, .long a0)] := hl
  unfold f_X8_run at h
  refine lv_aload_n F.1 F.2.1 dX8_run_0 rfl (lv_at hl 0 rfl) ?_
  refine rw_get (q0 := 0) F hK hW idC_0 rfl rfl in_X8_run_X8 1 (by decide) lk_X8_run_19 rfl dX8_run_1 ?_
  refine lv_lload_n F.1 F.2.1 dX8_run_4 rfl (lv_at hl 1 rfl) ?_
  obtain ⟨r_2, S_3, hq_1, h⟩ := bi_some h
  refine rw_vi F hK hW hS [.long a0] (rest := []) (c_X5_outputsFor l G A a0 S (r_2, S_3) hq_1) (cwV 1 F.2.2.2.2 gX8_run_X5_outputsFor rfl rfl rfl (by decide +kernel) ⟨Nat.le_of_ble_eq_true rfl, Nat.le_of_ble_eq_true rfl⟩) (rw_recv (q0 := 2) hK hW idC_2 rfl rfl) rfl hl.1 rfl (Nat.le_of_ble_eq_true rfl) dX8_run_5 (fun H locs hW hS => ?_)
  exact rw_ret F hr hlk hK hW hS h dX8_run_8
/-! CellCover$Cover.pinValues(I)I -/
abbrev rm_X1_pinValues : Room := { frames := 1, cells := 0, slots := 0, locals := 22 }
theorem in_X1_pinValues_X1 : ∀ w ∈ wsX10, w ∈ wsX1_pinValues := by decide +kernel
theorem lk_X1_pinValues_34 : Cond.fieldLink RX1 34 "CellCover$Cover" "value" "[I" ∈ wsX1_pinValues := by decide +kernel
set_option maxHeartbeats 4000000 in
set_option maxRecDepth 100000 in
theorem w_X1_pinValues_37 {p : Program} {l : Launch} {e : Env} {s : State} {m : MethodId} {args : Array Value} {below : List Frame} {meth : Method} {c : Code} {G : GT} {A : Nat → Prop} (F : CallFix p m c cX1_pinValues 5 s args wsX1_pinValues RX1) (hr : meth.sig.returnType = (some .int)) (hlk : meth.locks = false) (hK : va_K G.1 vwCl (tyl G) s) (t : Nat) (ht : t < 2) (out : Int32 × St) (kb : St → Int32 → Int32 → Int32 → Option (Int32 × St)) (Kb : ∀ (S : St) (x1 : Int32) (x2 : Int32) (x3 : Int32) (H : Heap) (locs : List Loc) (ls : Array Slot), Wd shC idsC G A S H → va_S A s.heap H locs → lv_has ls 5 [(0, .ref (G.2.2 6 t)), (1, .int x1), (2, .int x2), (3, .int x3)] → kb S x1 x2 x3 = some out → W p l e rm_X1_pinValues s m args below meth c H locs 0 0 (MQ below (QI shC idsC G A out) args s 0 0 A) (F0 m 4 ls [])) : ∀ (S : St) (x1 : Int32) (x2 : Int32) (x3 : Int32) (H : Heap) (locs : List Loc) (ls : Array Slot), Wd shC idsC G A S H → va_S A s.heap H locs → lv_has ls 5 [(0, .ref (G.2.2 6 t)), (1, .int x1), (2, .int x2), (3, .int x3)] → j_X1_pinValues_37 t kb S x1 x2 x3 = some out → W p l e rm_X1_pinValues s m args below meth c H locs 0 0 (MQ below (QI shC idsC G A out) args s 0 0 A) (F0 m 37 ls []) := by
  intro S x1 x2 x3 H locs ls hW hS hl h
  unfold j_X1_pinValues_37 at h
  obtain ⟨v_6, ev_6⟩ : ∃ y : Int32, y = x3 + 1 := ⟨_, rfl⟩
  have h := lt_n ev_6 h
  refine lv_iinc (v := v_6) (lv' := [(3, .int v_6), (0, .ref (G.2.2 6 t)), (1, .int x1), (2, .int x2)]) F.1 F.2.1 dX1_pinValues_37 hl (k := 3) rfl (by rw [ev_6]; rfl) (by decide) rfl (fun ls hl => ?_)
  refine lv_goto (tgt := 4) F.1 F.2.1 dX1_pinValues_40 (by decide) ?_
  exact Kb _ _ _ _ _ _ _  hW hS (lv_sub hl [1, 2, 3, 0] rfl) h
set_option maxHeartbeats 4000000 in
set_option maxRecDepth 100000 in
theorem w_X1_pinValues_4 {p : Program} {l : Launch} {e : Env} {s : State} {m : MethodId} {args : Array Value} {below : List Frame} {meth : Method} {c : Code} {G : GT} {A : Nat → Prop} (F : CallFix p m c cX1_pinValues 5 s args wsX1_pinValues RX1) (hr : meth.sig.returnType = (some .int)) (hlk : meth.locks = false) (hK : va_K G.1 vwCl (tyl G) s) (t : Nat) (ht : t < 2) (out : Int32 × St) : ∀ n : Nat, ∀ (S : St) (x1 : Int32) (x2 : Int32) (x3 : Int32) (H : Heap) (locs : List Loc) (ls : Array Slot), Wd shC idsC G A S H → va_S A s.heap H locs → lv_has ls 5 [(0, .ref (G.2.2 6 t)), (1, .int x1), (2, .int x2), (3, .int x3)] → l_X1_pinValues_4 t n S x1 x2 x3 = some out → W p l e rm_X1_pinValues s m args below meth c H locs 0 0 (MQ below (QI shC idsC G A out) args s 0 0 A) (F0 m 4 ls []) := by
  intro n
  induction n with
  | zero =>
    intro S x1 x2 x3 H locs ls hW hS hl h
    cases h
  | succ n Kb =>
    generalize hkb : l_X1_pinValues_4 t n = kb at Kb
    intro S x1 x2 x3 H locs ls hW hS hl h
    rw [show l_X1_pinValues_4 t (n + 1) = b_X1_pinValues_4 t (l_X1_pinValues_4 t n) from rfl, hkb] at h
    unfold b_X1_pinValues_4 at h
    refine lv_iload_n F.1 F.2.1 dX1_pinValues_4 rfl (lv_at hl 3 rfl) ?_
    refine lv_bipush (v := 6) F.1 F.2.1 dX1_pinValues_5 (by decide) ?_
    refine lv_icmp_ge (tgt := 43) F.1 F.2.1 dX1_pinValues_7 (by decide) (fun c_1 => ?_) (fun c_1 => ?_)
    · have h := (if_pos c_1).symm.trans h
      refine lv_iload_n F.1 F.2.1 dX1_pinValues_43 rfl (lv_at hl 2 rfl) ?_
      exact rw_ret F hr hlk hK hW hS h dX1_pinValues_44
    · have h := (if_neg c_1).symm.trans h
      refine lv_aload_n F.1 F.2.1 dX1_pinValues_10 rfl (lv_at hl 0 rfl) ?_
      refine lv_iload_n F.1 F.2.1 dX1_pinValues_11 rfl (lv_at hl 1 rfl) ?_
      refine lv_iload_n F.1 F.2.1 dX1_pinValues_12 rfl (lv_at hl 3 rfl) ?_
      obtain ⟨r_3, S_4, hq_2, h⟩ := bi_some h
      refine rw_vi F hK hW hS [.int x1, .int x3] (rest := []) (c_X1_pinOf l G A t ht x1 x3 S (r_3, S_4) hq_2) (cwV 2 F.2.2.2.2 gX1_pinValues_X1_pinOf rfl rfl rfl (by decide +kernel) ⟨Nat.le_of_ble_eq_true rfl, Nat.le_of_ble_eq_true rfl⟩) (rw_recv (q0 := 6 + t) hK hW (idC_6 _ ht) rfl rfl) rfl hl.1 rfl (Nat.le_of_ble_eq_true rfl) dX1_pinValues_13 (fun H locs hW hS => ?_)
      refine lv_istore (lv' := [(4, .int r_3), (0, .ref (G.2.2 6 t)), (1, .int x1), (2, .int x2), (3, .int x3)]) F.1 F.2.1 dX1_pinValues_16 hl (by decide) rfl (fun ls hl => ?_)
      refine lv_iload F.1 F.2.1 dX1_pinValues_18 (lv_at hl 0 rfl) ?_
      refine lv_bipush (v := -4) F.1 F.2.1 dX1_pinValues_20 (by decide) ?_
      refine lv_icmp_eq (tgt := 37) F.1 F.2.1 dX1_pinValues_22 (by decide) (fun c_5 => ?_) (fun c_5 => ?_)
      · have h := (if_pos c_5).symm.trans h
        exact w_X1_pinValues_37 F hr hlk hK t ht out kb Kb _ _ _ _ _ _ _  hW hS (lv_sub hl [1, 2, 3, 4] rfl) h
      · have h := (if_neg c_5).symm.trans h
        refine lv_iload_n F.1 F.2.1 dX1_pinValues_25 rfl (lv_at hl 3 rfl) ?_
        refine lv_aload_n F.1 F.2.1 dX1_pinValues_26 rfl (lv_at hl 1 rfl) ?_
        refine rw_get (q0 := 6 + t) F hK hW (idC_6 _ ht) rfl rfl in_X1_pinValues_X1 10 (by decide) lk_X1_pinValues_34 rfl dX1_pinValues_27 ?_
        refine lv_iload F.1 F.2.1 dX1_pinValues_30 (lv_at hl 0 rfl) ?_
        obtain ⟨b_7, h⟩ := gd_some h
        refine rw_iald (q0 := 61 + t) F hK hW (idC_34 _ ht) (fun _ => rfl) (ix_in b_7) dX1_pinValues_32 ?_
        refine lv_topi (fun v_8 ev_8 => ?_)
        have h := lt_n ev_8 h
        refine lv_iload_n F.1 F.2.1 dX1_pinValues_33 rfl (lv_at hl 4 rfl) ?_
        refine lv_ishl F.1 F.2.1 dX1_pinValues_34 ?_
        refine lv_ior F.1 F.2.1 dX1_pinValues_35 ?_
        refine lv_topi (fun v_9 ev_9 => ?_)
        have h := lt_n ev_9 h
        refine lv_istore_n (lv' := [(2, .int v_9), (4, .int r_3), (0, .ref (G.2.2 6 t)), (1, .int x1), (3, .int x3)]) F.1 F.2.1 dX1_pinValues_36 rfl hl (by decide) rfl (fun ls hl => ?_)
        exact w_X1_pinValues_37 F hr hlk hK t ht out kb Kb _ _ _ _ _ _ _  hW hS (lv_sub hl [2, 3, 0, 4] rfl) h
set_option maxHeartbeats 4000000 in
set_option maxRecDepth 100000 in
theorem c_X1_pinValues (l : Launch) (G : GT) (A : Nat → Prop) (t : Nat) (ht : t < 2) (a0 : Int32) (S : St) (out : Int32 × St) (h : f_X1_pinValues t a0 S = some out) : Met l yX1_pinValues wsX1_pinValues rm_X1_pinValues (va_Pc [.ref (G.2.2 6 t), .int a0] (WD shC idsC G A S)) (QI shC idsC G A out) 0 0 A := by
  refine Met.ofW (cc := cX1_pinValues) (maxL := 5) (ret := (some .int)) (by decide) rfl ?_
  intro p e s m args below meth c s₁ B hml hv
  obtain ⟨rfl, hW, hK⟩ := hv
  have F : CallFix p m c cX1_pinValues 5 s _ wsX1_pinValues RX1 := ⟨B.exec, B.bytes, hml, findClass_of_methodNamed B.named, atoms_spec (ws := wsX1_pinValues) B.pre⟩
  have hr := B.returns
  have hlk := B.notSynchronized
  have hS : va_S A s.heap s.heap [] := va_S.rf
  have hl := lv_entry ([.ref (G.2.2 6 t), .int a0]) (n := 5) (Nat.le_of_ble_eq_true rfl)
  rw [lg_entry_eq]
  generalize (lg_sl ([.ref (G.2.2 6 t), .int a0]) ++ List.replicate (5 - (lg_sl ([.ref (G.2.2 6 t), .int a0])).length) Slot.unset).toArray = ls at hl ⊢
  have hl : lv_has ls 5 [(0, .ref (G.2.2 6 t)), (1, .int a0)] := hl
  unfold f_X1_pinValues at h
  refine lv_iconst (v := 0) F.1 F.2.1 dX1_pinValues_0 (by decide) ?_
  refine lv_istore_n (lv' := [(2, .int 0), (0, .ref (G.2.2 6 t)), (1, .int a0)]) F.1 F.2.1 dX1_pinValues_1 rfl hl (by decide) rfl (fun ls hl => ?_)
  refine lv_iconst (v := 0) F.1 F.2.1 dX1_pinValues_2 (by decide) ?_
  refine lv_istore_n (lv' := [(3, .int 0), (2, .int 0), (0, .ref (G.2.2 6 t)), (1, .int a0)]) F.1 F.2.1 dX1_pinValues_3 rfl hl (by decide) rfl (fun ls hl => ?_)
  refine w_X1_pinValues_4 F hr hlk hK t ht out   5000 _ _ _ _ _ _ _  hW hS (lv_sub hl [2, 3, 1, 0] rfl) h
/-! CellCover$Cell.valueFor(I)I -/
abbrev rm_X0_valueFor : Room := { frames := 0, cells := 0, slots := 0, locals := 0 }
theorem in_X0_valueFor_X0 : ∀ w ∈ wsX00, w ∈ wsX0_valueFor := by decide +kernel
theorem lk_X0_valueFor_15 : Cond.fieldLink RX0 15 "CellCover$Cell" "symbols" "I" ∈ wsX0_valueFor := by decide +kernel
theorem lk_X0_valueFor_9 : Cond.fieldLink RX0 9 "CellCover$Cell" "symbol" "[I" ∈ wsX0_valueFor := by decide +kernel
set_option maxHeartbeats 4000000 in
set_option maxRecDepth 100000 in
theorem w_X0_valueFor_79 {p : Program} {l : Launch} {e : Env} {s : State} {m : MethodId} {args : Array Value} {below : List Frame} {meth : Method} {c : Code} {G : GT} {A : Nat → Prop} (F : CallFix p m c cX0_valueFor 6 s args wsX0_valueFor RX0) (hr : meth.sig.returnType = (some .int)) (hlk : meth.locks = false) (hK : va_K G.1 vwCl (tyl G) s) (t : Nat) (ht : t < 20) (out : Int32 × St) (kb : St → Int32 → Int32 → Int32 → Option (Int32 × St)) (Kb : ∀ (S : St) (x1 : Int32) (x2 : Int32) (x3 : Int32) (H : Heap) (locs : List Loc) (ls : Array Slot), Wd shC idsC G A S H → va_S A s.heap H locs → lv_has ls 6 [(0, .ref (G.2.2 8 t)), (1, .int x1), (2, .int x2), (3, .int x3)] → kb S x1 x2 x3 = some out → W p l e rm_X0_valueFor s m args below meth c H locs 0 0 (MQ below (QI shC idsC G A out) args s 0 0 A) (F0 m 9 ls [])) : ∀ (S : St) (x1 : Int32) (x2 : Int32) (x3 : Int32) (H : Heap) (locs : List Loc) (ls : Array Slot), Wd shC idsC G A S H → va_S A s.heap H locs → lv_has ls 6 [(0, .ref (G.2.2 8 t)), (1, .int x1), (2, .int x2), (3, .int x3)] → j_X0_valueFor_79 t kb S x1 x2 x3 = some out → W p l e rm_X0_valueFor s m args below meth c H locs 0 0 (MQ below (QI shC idsC G A out) args s 0 0 A) (F0 m 79 ls []) := by
  intro S x1 x2 x3 H locs ls hW hS hl h
  unfold j_X0_valueFor_79 at h
  obtain ⟨v_8, ev_8⟩ : ∃ y : Int32, y = x3 + (-1) := ⟨_, rfl⟩
  have h := lt_n ev_8 h
  refine lv_iinc (v := v_8) (lv' := [(3, .int v_8), (0, .ref (G.2.2 8 t)), (1, .int x1), (2, .int x2)]) F.1 F.2.1 dX0_valueFor_79 hl (k := 3) rfl (by rw [ev_8]; rfl) (by decide) rfl (fun ls hl => ?_)
  refine lv_goto (tgt := 9) F.1 F.2.1 dX0_valueFor_82 (by decide) ?_
  exact Kb _ _ _ _ _ _ _  hW hS (lv_sub hl [1, 2, 3, 0] rfl) h
set_option maxHeartbeats 4000000 in
set_option maxRecDepth 100000 in
theorem w_X0_valueFor_40 {p : Program} {l : Launch} {e : Env} {s : State} {m : MethodId} {args : Array Value} {below : List Frame} {meth : Method} {c : Code} {G : GT} {A : Nat → Prop} (F : CallFix p m c cX0_valueFor 6 s args wsX0_valueFor RX0) (hr : meth.sig.returnType = (some .int)) (hlk : meth.locks = false) (hK : va_K G.1 vwCl (tyl G) s) (t : Nat) (ht : t < 20) (out : Int32 × St) (kb : St → Int32 → Int32 → Int32 → Option (Int32 × St)) (Kb : ∀ (S : St) (x1 : Int32) (x2 : Int32) (x3 : Int32) (H : Heap) (locs : List Loc) (ls : Array Slot), Wd shC idsC G A S H → va_S A s.heap H locs → lv_has ls 6 [(0, .ref (G.2.2 8 t)), (1, .int x1), (2, .int x2), (3, .int x3)] → kb S x1 x2 x3 = some out → W p l e rm_X0_valueFor s m args below meth c H locs 0 0 (MQ below (QI shC idsC G A out) args s 0 0 A) (F0 m 9 ls [])) : ∀ (S : St) (x1 : Int32) (x2 : Int32) (x3 : Int32) (y0 : Int32) (H : Heap) (locs : List Loc) (ls : Array Slot), Wd shC idsC G A S H → va_S A s.heap H locs → lv_has ls 6 [(0, .ref (G.2.2 8 t)), (1, .int x1), (2, .int x2), (3, .int x3)] → j_X0_valueFor_40 t kb S x1 x2 x3 y0 = some out → W p l e rm_X0_valueFor s m args below meth c H locs 0 0 (MQ below (QI shC idsC G A out) args s 0 0 A) (F0 m 40 ls [.int y0]) := by
  intro S x1 x2 x3 y0 H locs ls hW hS hl h
  unfold j_X0_valueFor_40 at h
  refine lv_istore (lv' := [(5, .int y0), (0, .ref (G.2.2 8 t)), (1, .int x1), (2, .int x2), (3, .int x3)]) F.1 F.2.1 dX0_valueFor_40 hl (by decide) rfl (fun ls hl => ?_)
  refine lv_iload_n F.1 F.2.1 dX0_valueFor_42 rfl (lv_at hl 3 rfl) ?_
  refine lv_iconst (v := 2) F.1 F.2.1 dX0_valueFor_43 (by decide) ?_
  refine lv_ishr F.1 F.2.1 dX0_valueFor_44 ?_
  refine lv_iconst (v := 1) F.1 F.2.1 dX0_valueFor_45 (by decide) ?_
  refine lv_ishl F.1 F.2.1 dX0_valueFor_46 ?_
  refine lv_iload F.1 F.2.1 dX0_valueFor_47 (lv_at hl 0 rfl) ?_
  refine lv_ior F.1 F.2.1 dX0_valueFor_49 ?_
  refine lv_topi (fun v_11 ev_11 => ?_)
  have h := lt_n ev_11 h
  refine lv_istore_n (lv' := [(2, .int v_11), (5, .int y0), (0, .ref (G.2.2 8 t)), (1, .int x1), (3, .int x3)]) F.1 F.2.1 dX0_valueFor_50 rfl hl (by decide) rfl (fun ls hl => ?_)
  refine lv_goto (tgt := 79) F.1 F.2.1 dX0_valueFor_51 (by decide) ?_
  exact w_X0_valueFor_79 F hr hlk hK t ht out kb Kb _ _ _ _ _ _ _  hW hS (lv_sub hl [2, 3, 0, 4] rfl) h
set_option maxHeartbeats 4000000 in
set_option maxRecDepth 100000 in
theorem w_X0_valueFor_9 {p : Program} {l : Launch} {e : Env} {s : State} {m : MethodId} {args : Array Value} {below : List Frame} {meth : Method} {c : Code} {G : GT} {A : Nat → Prop} (F : CallFix p m c cX0_valueFor 6 s args wsX0_valueFor RX0) (hr : meth.sig.returnType = (some .int)) (hlk : meth.locks = false) (hK : va_K G.1 vwCl (tyl G) s) (t : Nat) (ht : t < 20) (out : Int32 × St) : ∀ n : Nat, ∀ (S : St) (x1 : Int32) (x2 : Int32) (x3 : Int32) (H : Heap) (locs : List Loc) (ls : Array Slot), Wd shC idsC G A S H → va_S A s.heap H locs → lv_has ls 6 [(0, .ref (G.2.2 8 t)), (1, .int x1), (2, .int x2), (3, .int x3)] → l_X0_valueFor_9 t n S x1 x2 x3 = some out → W p l e rm_X0_valueFor s m args below meth c H locs 0 0 (MQ below (QI shC idsC G A out) args s 0 0 A) (F0 m 9 ls []) := by
  intro n
  induction n with
  | zero =>
    intro S x1 x2 x3 H locs ls hW hS hl h
    cases h
  | succ n Kb =>
    generalize hkb : l_X0_valueFor_9 t n = kb at Kb
    intro S x1 x2 x3 H locs ls hW hS hl h
    rw [show l_X0_valueFor_9 t (n + 1) = b_X0_valueFor_9 t (l_X0_valueFor_9 t n) from rfl, hkb] at h
    unfold b_X0_valueFor_9 at h
    refine lv_iload_n F.1 F.2.1 dX0_valueFor_9 rfl (lv_at hl 3 rfl) ?_
    refine lv_if_lt (tgt := 85) F.1 F.2.1 dX0_valueFor_10 (by decide) (fun c_2 => ?_) (fun c_2 => ?_)
    · have h := (if_pos c_2).symm.trans h
      refine lv_iload_n F.1 F.2.1 dX0_valueFor_85 rfl (lv_at hl 2 rfl) ?_
      refine lv_iconst (v := 1) F.1 F.2.1 dX0_valueFor_86 (by decide) ?_
      refine lv_iand F.1 F.2.1 dX0_valueFor_87 ?_
      exact rw_ret F hr hlk hK hW hS h dX0_valueFor_88
    · have h := (if_neg c_2).symm.trans h
      refine lv_aload_n F.1 F.2.1 dX0_valueFor_13 rfl (lv_at hl 0 rfl) ?_
      refine rw_get (q0 := 9 + t) F hK hW (idC_8 _ ht) rfl rfl in_X0_valueFor_X0 0 (by decide) lk_X0_valueFor_9 rfl dX0_valueFor_14 ?_
      refine lv_iload_n F.1 F.2.1 dX0_valueFor_17 rfl (lv_at hl 3 rfl) ?_
      obtain ⟨b_3, h⟩ := gd_some h
      refine rw_iald (q0 := 64 + t) F hK hW (idC_36 _ ht) (fun _ => rfl) (ix_in b_3) dX0_valueFor_18 ?_
      refine lv_topi (fun v_4 ev_4 => ?_)
      have h := lt_n ev_4 h
      refine lv_istore (lv' := [(4, .int v_4), (0, .ref (G.2.2 8 t)), (1, .int x1), (2, .int x2), (3, .int x3)]) F.1 F.2.1 dX0_valueFor_19 hl (by decide) rfl (fun ls hl => ?_)
      refine lv_iload F.1 F.2.1 dX0_valueFor_21 (lv_at hl 0 rfl) ?_
      refine lv_bipush (v := 7) F.1 F.2.1 dX0_valueFor_23 (by decide) ?_
      refine lv_icmp_ne (tgt := 54) F.1 F.2.1 dX0_valueFor_25 (by decide) (fun c_5 => ?_) (fun c_5 => ?_)
      · have h := (if_neg c_5).symm.trans h
        refine lv_iload F.1 F.2.1 dX0_valueFor_54 (lv_at hl 0 rfl) ?_
        refine lv_bipush (v := 6) F.1 F.2.1 dX0_valueFor_56 (by decide) ?_
        refine lv_icmp_ne (tgt := 68) F.1 F.2.1 dX0_valueFor_58 (by decide) (fun c_6 => ?_) (fun c_6 => ?_)
        · have h := (if_neg c_6).symm.trans h
          refine lv_iload_n F.1 F.2.1 dX0_valueFor_68 rfl (lv_at hl 3 rfl) ?_
          refine lv_iconst (v := 1) F.1 F.2.1 dX0_valueFor_69 (by decide) ?_
          refine lv_ishl F.1 F.2.1 dX0_valueFor_70 ?_
          refine lv_iload_n F.1 F.2.1 dX0_valueFor_71 rfl (lv_at hl 2 rfl) ?_
          refine lv_iload F.1 F.2.1 dX0_valueFor_72 (lv_at hl 0 rfl) ?_
          refine lv_ishr F.1 F.2.1 dX0_valueFor_74 ?_
          refine lv_iconst (v := 1) F.1 F.2.1 dX0_valueFor_75 (by decide) ?_
          refine lv_iand F.1 F.2.1 dX0_valueFor_76 ?_
          refine lv_ior F.1 F.2.1 dX0_valueFor_77 ?_
          refine lv_topi (fun v_7 ev_7 => ?_)
          have h := lt_n ev_7 h
          refine lv_istore_n (lv' := [(2, .int v_7), (4, .int v_4), (0, .ref (G.2.2 8 t)), (1, .int x1), (3, .int x3)]) F.1 F.2.1 dX0_valueFor_78 rfl hl (by decide) rfl (fun ls hl => ?_)
          exact w_X0_valueFor_79 F hr hlk hK t ht out kb Kb _ _ _ _ _ _ _  hW hS (lv_sub hl [2, 3, 0, 4] rfl) h
        · have h := (if_pos c_6).symm.trans h
          refine lv_iload_n F.1 F.2.1 dX0_valueFor_61 rfl (lv_at hl 3 rfl) ?_
          refine lv_iconst (v := 1) F.1 F.2.1 dX0_valueFor_62 (by decide) ?_
          refine lv_ixor F.1 F.2.1 dX0_valueFor_63 ?_
          refine lv_topi (fun v_9 ev_9 => ?_)
          have h := lt_n ev_9 h
          refine lv_istore_n (lv' := [(2, .int v_9), (4, .int v_4), (0, .ref (G.2.2 8 t)), (1, .int x1), (3, .int x3)]) F.1 F.2.1 dX0_valueFor_64 rfl hl (by decide) rfl (fun ls hl => ?_)
          refine lv_goto (tgt := 79) F.1 F.2.1 dX0_valueFor_65 (by decide) ?_
          exact w_X0_valueFor_79 F hr hlk hK t ht out kb Kb _ _ _ _ _ _ _  hW hS (lv_sub hl [2, 3, 0, 4] rfl) h
      · have h := (if_pos c_5).symm.trans h
        refine lv_iload_n F.1 F.2.1 dX0_valueFor_28 rfl (lv_at hl 3 rfl) ?_
        refine lv_iconst (v := 3) F.1 F.2.1 dX0_valueFor_29 (by decide) ?_
        refine lv_iand F.1 F.2.1 dX0_valueFor_30 ?_
        refine lv_iconst (v := 3) F.1 F.2.1 dX0_valueFor_31 (by decide) ?_
        refine lv_icmp_ne (tgt := 39) F.1 F.2.1 dX0_valueFor_32 (by decide) (fun c_10 => ?_) (fun c_10 => ?_)
        · have h := (if_neg c_10).symm.trans h
          refine lv_iconst (v := 1) F.1 F.2.1 dX0_valueFor_39 (by decide) ?_
          exact w_X0_valueFor_40 F hr hlk hK t ht out kb Kb _ _ _ _ _ _ _ _  hW hS (lv_sub hl [1, 2, 3, 4] rfl) h
        · have h := (if_pos c_10).symm.trans h
          refine lv_iconst (v := 0) F.1 F.2.1 dX0_valueFor_35 (by decide) ?_
          refine lv_goto (tgt := 40) F.1 F.2.1 dX0_valueFor_36 (by decide) ?_
          exact w_X0_valueFor_40 F hr hlk hK t ht out kb Kb _ _ _ _ _ _ _ _  hW hS (lv_sub hl [1, 2, 3, 4] rfl) h
set_option maxHeartbeats 4000000 in
set_option maxRecDepth 100000 in
theorem c_X0_valueFor (l : Launch) (G : GT) (A : Nat → Prop) (t : Nat) (ht : t < 20) (a0 : Int32) (S : St) (out : Int32 × St) (h : f_X0_valueFor t a0 S = some out) : Met l yX0_valueFor wsX0_valueFor rm_X0_valueFor (va_Pc [.ref (G.2.2 8 t), .int a0] (WD shC idsC G A S)) (QI shC idsC G A out) 0 0 A := by
  refine Met.ofW (cc := cX0_valueFor) (maxL := 6) (ret := (some .int)) (by decide) rfl ?_
  intro p e s m args below meth c s₁ B hml hv
  obtain ⟨rfl, hW, hK⟩ := hv
  have F : CallFix p m c cX0_valueFor 6 s _ wsX0_valueFor RX0 := ⟨B.exec, B.bytes, hml, findClass_of_methodNamed B.named, atoms_spec (ws := wsX0_valueFor) B.pre⟩
  have hr := B.returns
  have hlk := B.notSynchronized
  have hS : va_S A s.heap s.heap [] := va_S.rf
  have hl := lv_entry ([.ref (G.2.2 8 t), .int a0]) (n := 6) (Nat.le_of_ble_eq_true rfl)
  rw [lg_entry_eq]
  generalize (lg_sl ([.ref (G.2.2 8 t), .int a0]) ++ List.replicate (6 - (lg_sl ([.ref (G.2.2 8 t), .int a0])).length) Slot.unset).toArray = ls at hl ⊢
  have hl : lv_has ls 6 [(0, .ref (G.2.2 8 t)), (1, .int a0)] := hl
  unfold f_X0_valueFor at h
  refine lv_iconst (v := 0) F.1 F.2.1 dX0_valueFor_0 (by decide) ?_
  refine lv_istore_n (lv' := [(2, .int 0), (0, .ref (G.2.2 8 t)), (1, .int a0)]) F.1 F.2.1 dX0_valueFor_1 rfl hl (by decide) rfl (fun ls hl => ?_)
  refine lv_aload_n F.1 F.2.1 dX0_valueFor_2 rfl (lv_at hl 1 rfl) ?_
  refine rw_get (q0 := 9 + t) F hK hW (idC_8 _ ht) rfl rfl in_X0_valueFor_X0 1 (by decide) lk_X0_valueFor_15 rfl dX0_valueFor_3 ?_
  refine lv_iconst (v := 1) F.1 F.2.1 dX0_valueFor_6 (by decide) ?_
  refine lv_isub F.1 F.2.1 dX0_valueFor_7 ?_
  refine lv_topi (fun v_1 ev_1 => ?_)
  have h := lt_n ev_1 h
  refine lv_istore_n (lv' := [(3, .int v_1), (2, .int 0), (0, .ref (G.2.2 8 t)), (1, .int a0)]) F.1 F.2.1 dX0_valueFor_8 rfl hl (by decide) rfl (fun ls hl => ?_)
  refine w_X0_valueFor_9 F hr hlk hK t ht out   5000 _ _ _ _ _ _ _  hW hS (lv_sub hl [2, 3, 1, 0] rfl) h
/-! CellCover$Cover.work(J)V -/
abbrev rm_X1_work : Room := { frames := 2, cells := 0, slots := 0, locals := 46 }
theorem in_X1_work_X1 : ∀ w ∈ wsX10, w ∈ wsX1_work := by decide +kernel
theorem in_X1_work_X7 : ∀ w ∈ wsX70, w ∈ wsX1_work := by decide +kernel
theorem in_X1_work_X3 : ∀ w ∈ wsX30, w ∈ wsX1_work := by decide +kernel
theorem lk_X1_work_47 : Cond.fieldLink RX1 47 "CellCover$Cover" "vertices" "LCellCover$Vertices;" ∈ wsX1_work := by decide +kernel
theorem lk_X1_work_64 : Cond.fieldLink RX1 64 "CellCover$Vertices" "many" "I" ∈ wsX1_work := by decide +kernel
theorem lk_X1_work_59 : Cond.fieldLink RX1 59 "CellCover$Vertices" "form" "[I" ∈ wsX1_work := by decide +kernel
theorem lk_X1_work_27 : Cond.fieldLink RX1 27 "CellCover$Cover" "stands" "[Z" ∈ wsX1_work := by decide +kernel
theorem lk_X1_work_51 : Cond.fieldLink RX1 51 "CellCover$Cover" "library" "LCellCover$Library;" ∈ wsX1_work := by decide +kernel
theorem lk_X1_work_18 : Cond.fieldLink RX1 18 "CellCover$Cover" "cellOf" "[I" ∈ wsX1_work := by decide +kernel
theorem lk_X1_work_34 : Cond.fieldLink RX1 34 "CellCover$Cover" "value" "[I" ∈ wsX1_work := by decide +kernel
theorem lk_X1_work_87 : Cond.fieldLink RX1 87 "CellCover$Library" "cells" "[LCellCover$Cell;" ∈ wsX1_work := by decide +kernel
set_option maxHeartbeats 4000000 in
set_option maxRecDepth 100000 in
theorem w_X1_work_106 {p : Program} {l : Launch} {e : Env} {s : State} {m : MethodId} {args : Array Value} {below : List Frame} {meth : Method} {c : Code} {G : GT} {A : Nat → Prop} (F : CallFix p m c cX1_work 6 s args wsX1_work RX1) (hr : meth.sig.returnType = none) (hlk : meth.locks = false) (hK : va_K G.1 vwCl (tyl G) s) (t : Nat) (ht : t < 2) (out : St) (kb : St → Int64 → Int32 → Option (St)) (Kb : ∀ (S : St) (x3 : Int64) (x5 : Int32) (H : Heap) (locs : List Loc) (ls : Array Slot), Wd shC idsC G A S H → va_S A s.heap H locs → lv_has ls 6 [(0, .ref (G.2.2 6 t)), (3, .long x3), (5, .int x5)] → kb S x3 x5 = some out → W p l e rm_X1_work s m args below meth c H locs 0 0 (MQ below (QV shC idsC G A out) args s 0 0 A) (F0 m 5 ls [])) : ∀ (S : St) (x3 : Int64) (x5 : Int32) (H : Heap) (locs : List Loc) (ls : Array Slot), Wd shC idsC G A S H → va_S A s.heap H locs → lv_has ls 6 [(0, .ref (G.2.2 6 t)), (3, .long x3), (5, .int x5)] → j_X1_work_106 t kb S x3 x5 = some out → W p l e rm_X1_work s m args below meth c H locs 0 0 (MQ below (QV shC idsC G A out) args s 0 0 A) (F0 m 106 ls []) := by
  intro S x3 x5 H locs ls hW hS hl h
  unfold j_X1_work_106 at h
  obtain ⟨v_8, ev_8⟩ : ∃ y : Int32, y = x5 + 1 := ⟨_, rfl⟩
  have h := lt_n ev_8 h
  refine lv_iinc (v := v_8) (lv' := [(5, .int v_8), (0, .ref (G.2.2 6 t)), (3, .long x3)]) F.1 F.2.1 dX1_work_106 hl (k := 2) rfl (by rw [ev_8]; rfl) (by decide) rfl (fun ls hl => ?_)
  refine lv_goto (tgt := 5) F.1 F.2.1 dX1_work_109 (by decide) ?_
  exact Kb _ _ _ _ _ _  hW hS (lv_sub hl [1, 2, 0] rfl) h
set_option maxHeartbeats 4000000 in
set_option maxRecDepth 100000 in
theorem w_X1_work_5 {p : Program} {l : Launch} {e : Env} {s : State} {m : MethodId} {args : Array Value} {below : List Frame} {meth : Method} {c : Code} {G : GT} {A : Nat → Prop} (F : CallFix p m c cX1_work 6 s args wsX1_work RX1) (hr : meth.sig.returnType = none) (hlk : meth.locks = false) (hK : va_K G.1 vwCl (tyl G) s) (t : Nat) (ht : t < 2) (out : St) : ∀ n : Nat, ∀ (S : St) (x3 : Int64) (x5 : Int32) (H : Heap) (locs : List Loc) (ls : Array Slot), Wd shC idsC G A S H → va_S A s.heap H locs → lv_has ls 6 [(0, .ref (G.2.2 6 t)), (3, .long x3), (5, .int x5)] → l_X1_work_5 t n S x3 x5 = some out → W p l e rm_X1_work s m args below meth c H locs 0 0 (MQ below (QV shC idsC G A out) args s 0 0 A) (F0 m 5 ls []) := by
  intro n
  induction n with
  | zero =>
    intro S x3 x5 H locs ls hW hS hl h
    cases h
  | succ n Kb =>
    generalize hkb : l_X1_work_5 t n = kb at Kb
    intro S x3 x5 H locs ls hW hS hl h
    rw [show l_X1_work_5 t (n + 1) = b_X1_work_5 t (l_X1_work_5 t n) from rfl, hkb] at h
    unfold b_X1_work_5 at h
    refine lv_iload F.1 F.2.1 dX1_work_5 (lv_at hl 2 rfl) ?_
    refine lv_aload_n F.1 F.2.1 dX1_work_7 rfl (lv_at hl 0 rfl) ?_
    refine rw_get (q0 := 6 + t) F hK hW (idC_6 _ ht) rfl rfl in_X1_work_X1 0 (by decide) lk_X1_work_47 rfl dX1_work_8 ?_
    refine rw_get (q0 := 1) F hK hW idC_1 rfl rfl in_X1_work_X7 6 (by decide) lk_X1_work_64 rfl dX1_work_11 ?_
    refine lv_icmp_ge (tgt := 112) F.1 F.2.1 dX1_work_14 (by decide) (fun c_1 => ?_) (fun c_1 => ?_)
    · have h := (if_pos c_1).symm.trans h
      exact rw_retv F hr hlk hK hW hS h dX1_work_112
    · have h := (if_neg c_1).symm.trans h
      refine lv_aload_n F.1 F.2.1 dX1_work_17 rfl (lv_at hl 0 rfl) ?_
      refine rw_get (q0 := 6 + t) F hK hW (idC_6 _ ht) rfl rfl in_X1_work_X1 0 (by decide) lk_X1_work_47 rfl dX1_work_18 ?_
      refine rw_get (q0 := 1) F hK hW idC_1 rfl rfl in_X1_work_X7 0 (by decide) lk_X1_work_59 rfl dX1_work_21 ?_
      refine lv_iload F.1 F.2.1 dX1_work_24 (lv_at hl 2 rfl) ?_
      obtain ⟨b_2, h⟩ := gd_some h
      refine rw_iald (q0 := 29) F hK hW idC_9 (fun _ => rfl) (ix_in b_2) dX1_work_26 ?_
      refine lv_topi (fun v_3 ev_3 => ?_)
      have h := lt_n ev_3 h
      refine lv_if_ne (tgt := 48) F.1 F.2.1 dX1_work_27 (by decide) (fun c_4 => ?_) (fun c_4 => ?_)
      · have h := (if_neg c_4).symm.trans h
        refine lv_aload_n F.1 F.2.1 dX1_work_48 rfl (lv_at hl 0 rfl) ?_
        refine rw_get (q0 := 6 + t) F hK hW (idC_6 _ ht) rfl rfl in_X1_work_X1 8 (by decide) lk_X1_work_27 rfl dX1_work_49 ?_
        refine lv_iload F.1 F.2.1 dX1_work_52 (lv_at hl 2 rfl) ?_
        obtain ⟨b_5, h⟩ := gd_some h
        refine rw_zald (q0 := 57 + t) F hK hW (idC_32 _ ht) (fun _ => rfl) (ix_in b_5) dX1_work_54 ?_
        refine lv_topi (fun v_6 ev_6 => ?_)
        have h := lt_n ev_6 h
        refine lv_if_eq (tgt := 106) F.1 F.2.1 dX1_work_55 (by decide) (fun c_7 => ?_) (fun c_7 => ?_)
        · have h := (if_pos c_7).symm.trans h
          exact w_X1_work_106 F hr hlk hK t ht out kb Kb _ _ _ _ _ _  hW hS hl h
        · have h := (if_neg c_7).symm.trans h
          refine lv_aload_n F.1 F.2.1 dX1_work_58 rfl (lv_at hl 0 rfl) ?_
          refine rw_get (q0 := 6 + t) F hK hW (idC_6 _ ht) rfl rfl in_X1_work_X1 1 (by decide) lk_X1_work_51 rfl dX1_work_59 ?_
          refine lv_aload_n F.1 F.2.1 dX1_work_62 rfl (lv_at hl 0 rfl) ?_
          refine rw_get (q0 := 6 + t) F hK hW (idC_6 _ ht) rfl rfl in_X1_work_X1 5 (by decide) lk_X1_work_18 rfl dX1_work_63 ?_
          refine lv_iload F.1 F.2.1 dX1_work_66 (lv_at hl 2 rfl) ?_
          obtain ⟨b_9, h⟩ := gd_some h
          refine rw_iald (q0 := 51 + t) F hK hW (idC_29 _ ht) (fun _ => rfl) (ix_in b_9) dX1_work_68 ?_
          refine lv_topi (fun v_10 ev_10 => ?_)
          have h := lt_n ev_10 h
          obtain ⟨r_12, S_13, hq_11, h⟩ := bi_some h
          refine rw_vi F hK hW hS [.int v_10] (rest := []) (c_X3_has l G A v_10 S (r_12, S_13) hq_11) (cwV 1 F.2.2.2.2 gX1_work_X3_has rfl rfl rfl (by decide +kernel) ⟨Nat.le_of_ble_eq_true rfl, Nat.le_of_ble_eq_true rfl⟩) (rw_recv (q0 := 4) hK hW idC_4 rfl rfl) rfl hl.1 rfl (Nat.le_of_ble_eq_true rfl) dX1_work_69 (fun H locs hW hS => ?_)
          refine lv_if_eq (tgt := 106) F.1 F.2.1 dX1_work_72 (by decide) (fun c_14 => ?_) (fun c_14 => ?_)
          · have h := (if_pos c_14).symm.trans h
            exact w_X1_work_106 F hr hlk hK t ht out kb Kb _ _ _ _ _ _  hW hS hl h
          · have h := (if_neg c_14).symm.trans h
            refine lv_aload_n F.1 F.2.1 dX1_work_75 rfl (lv_at hl 0 rfl) ?_
            refine rw_get (q0 := 6 + t) F hK hW (idC_6 _ ht) rfl rfl in_X1_work_X1 10 (by decide) lk_X1_work_34 rfl dX1_work_76 ?_
            refine lv_iload F.1 F.2.1 dX1_work_79 (lv_at hl 2 rfl) ?_
            refine lv_aload_n F.1 F.2.1 dX1_work_81 rfl (lv_at hl 0 rfl) ?_
            refine rw_get (q0 := 6 + t) F hK hW (idC_6 _ ht) rfl rfl in_X1_work_X1 1 (by decide) lk_X1_work_51 rfl dX1_work_82 ?_
            refine rw_get (q0 := 4) F hK hW idC_4 rfl rfl in_X1_work_X3 0 (by decide) lk_X1_work_87 rfl dX1_work_85 ?_
            refine lv_aload_n F.1 F.2.1 dX1_work_88 rfl (lv_at hl 0 rfl) ?_
            refine rw_get (q0 := 6 + t) F hK hW (idC_6 _ ht) rfl rfl in_X1_work_X1 5 (by decide) lk_X1_work_18 rfl dX1_work_89 ?_
            refine lv_iload F.1 F.2.1 dX1_work_92 (lv_at hl 2 rfl) ?_
            obtain ⟨b_15, h⟩ := gd_some h
            refine rw_iald (q0 := 51 + t) F hK hW (idC_29 _ ht) (fun _ => rfl) (ix_in b_15) dX1_work_94 ?_
            refine lv_topi (fun v_16 ev_16 => ?_)
            have h := lt_n ev_16 h
            obtain ⟨b_17, h⟩ := gd_some h
            refine rw_aald (q0 := 44) F hK hW idC_24 (fun _ => rfl) (ix_in b_17) dX1_work_95 ?_
            refine lv_aload_n F.1 F.2.1 dX1_work_96 rfl (lv_at hl 0 rfl) ?_
            refine lv_iload F.1 F.2.1 dX1_work_97 (lv_at hl 2 rfl) ?_
            obtain ⟨r_19, S_20, hq_18, h⟩ := bi_some h
            refine rw_vi F hK hW hS [.int x5] (rest := [.ref (G.2.2 8 v_16.toNatClampNeg), .int x5, .ref (G.2.2 34 t)]) (c_X1_pinValues l G A t ht x5 S_13 (r_19, S_20) hq_18) (cwV 1 F.2.2.2.2 gX1_work_X1_pinValues rfl rfl rfl (by decide +kernel) ⟨Nat.le_of_ble_eq_true rfl, Nat.le_of_ble_eq_true rfl⟩) (rw_recv (q0 := 6 + t) hK hW (idC_6 _ ht) rfl rfl) rfl hl.1 rfl (Nat.le_of_ble_eq_true rfl) dX1_work_99 (fun H locs hW hS => ?_)
            obtain ⟨r_22, S_23, hq_21, h⟩ := bi_some h
            refine rw_vi F hK hW hS [.int r_19] (rest := [.int x5, .ref (G.2.2 34 t)]) (c_X0_valueFor l G A v_16.toNatClampNeg (ix_lt b_17) r_19 S_20 (r_22, S_23) hq_21) (cwV 1 F.2.2.2.2 gX1_work_X0_valueFor rfl rfl rfl (by decide +kernel) ⟨Nat.le_of_ble_eq_true rfl, Nat.le_of_ble_eq_true rfl⟩) (rw_recv (q0 := 9 + v_16.toNatClampNeg) hK hW (idC_8 _ (ix_lt b_17)) rfl rfl) rfl hl.1 rfl (Nat.le_of_ble_eq_true rfl) dX1_work_102 (fun H locs hW hS => ?_)
            obtain ⟨b_24, h⟩ := gd_some h
            refine rw_iast ndC (q0 := 61 + t) F hK hW hS (idC_34 _ ht) (fun _ => rfl) (ix_in b_24) dX1_work_105 (fun H locs S_25 eS_25 hW hS => ?_)
            have h := lt_n eS_25 h
            exact w_X1_work_106 F hr hlk hK t ht out kb Kb _ _ _ _ _ _  hW hS hl h
      · have h := (if_pos c_4).symm.trans h
        refine lv_aload_n F.1 F.2.1 dX1_work_30 rfl (lv_at hl 0 rfl) ?_
        refine rw_get (q0 := 6 + t) F hK hW (idC_6 _ ht) rfl rfl in_X1_work_X1 10 (by decide) lk_X1_work_34 rfl dX1_work_31 ?_
        refine lv_iload F.1 F.2.1 dX1_work_34 (lv_at hl 2 rfl) ?_
        refine lv_lload_n F.1 F.2.1 dX1_work_36 rfl (lv_at hl 1 rfl) ?_
        refine lv_lconst (v := 1) F.1 F.2.1 dX1_work_37 (by decide) ?_
        refine lv_land F.1 F.2.1 dX1_work_38 ?_
        refine lv_l2i (v := (x3 &&& 1).toInt32) F.1 F.2.1 dX1_work_39 rfl ?_
        obtain ⟨b_26, h⟩ := gd_some h
        refine rw_iast ndC (q0 := 61 + t) F hK hW hS (idC_34 _ ht) (fun _ => rfl) (ix_in b_26) dX1_work_40 (fun H locs S_27 eS_27 hW hS => ?_)
        have h := lt_n eS_27 h
        refine lv_lload_n F.1 F.2.1 dX1_work_41 rfl (lv_at hl 1 rfl) ?_
        refine lv_iconst (v := 1) F.1 F.2.1 dX1_work_42 (by decide) ?_
        refine lv_lushr (v := (x3.toUInt64 >>> ((1 : Int32).toInt64.toUInt64 &&& Int64.toUInt64 63)).toInt64) F.1 F.2.1 dX1_work_43 rfl ?_
        refine lv_topl (fun v_28 ev_28 => ?_)
        have h := lt_n ev_28 h
        refine lv_lstore_n (lv' := [(3, .long v_28), (0, .ref (G.2.2 6 t)), (5, .int x5)]) F.1 F.2.1 dX1_work_44 rfl hl (by decide) rfl (fun ls hl => ?_)
        refine lv_goto (tgt := 106) F.1 F.2.1 dX1_work_45 (by decide) ?_
        exact w_X1_work_106 F hr hlk hK t ht out kb Kb _ _ _ _ _ _  hW hS (lv_sub hl [1, 0, 2] rfl) h
set_option maxHeartbeats 4000000 in
set_option maxRecDepth 100000 in
theorem c_X1_work (l : Launch) (G : GT) (A : Nat → Prop) (t : Nat) (ht : t < 2) (a0 : Int64) (S : St) (out : St) (h : f_X1_work t a0 S = some out) : Met l yX1_work wsX1_work rm_X1_work (va_Pc [.ref (G.2.2 6 t), .long a0] (WD shC idsC G A S)) (QV shC idsC G A out) 0 0 A := by
  refine Met.ofW (cc := cX1_work) (maxL := 6) (ret := none) (by decide) rfl ?_
  intro p e s m args below meth c s₁ B hml hv
  obtain ⟨rfl, hW, hK⟩ := hv
  have F : CallFix p m c cX1_work 6 s _ wsX1_work RX1 := ⟨B.exec, B.bytes, hml, findClass_of_methodNamed B.named, atoms_spec (ws := wsX1_work) B.pre⟩
  have hr := B.returns
  have hlk := B.notSynchronized
  have hS : va_S A s.heap s.heap [] := va_S.rf
  have hl := lv_entry ([.ref (G.2.2 6 t), .long a0]) (n := 6) (Nat.le_of_ble_eq_true rfl)
  rw [lg_entry_eq]
  generalize (lg_sl ([.ref (G.2.2 6 t), .long a0]) ++ List.replicate (6 - (lg_sl ([.ref (G.2.2 6 t), .long a0])).length) Slot.unset).toArray = ls at hl ⊢
  have hl : lv_has ls 6 [(0, .ref (G.2.2 6 t)), (1, .long a0)] := hl
  unfold f_X1_work at h
  refine lv_lload_n F.1 F.2.1 dX1_work_0 rfl (lv_at hl 1 rfl) ?_
  refine lv_lstore_n (lv' := [(3, .long a0), (0, .ref (G.2.2 6 t)), (1, .long a0)]) F.1 F.2.1 dX1_work_1 rfl hl (by decide) rfl (fun ls hl => ?_)
  refine lv_iconst (v := 0) F.1 F.2.1 dX1_work_2 (by decide) ?_
  refine lv_istore (lv' := [(5, .int 0), (3, .long a0), (0, .ref (G.2.2 6 t)), (1, .long a0)]) F.1 F.2.1 dX1_work_3 hl (by decide) rfl (fun ls hl => ?_)
  refine w_X1_work_5 F hr hlk hK t ht out   5000 _ _ _ _ _ _  hW hS (lv_sub hl [2, 1, 0] rfl) h
/-! CellCover.mapped(J)I -/
abbrev rm_X8_mapped : Room := { frames := 3, cells := 0, slots := 0, locals := 71 }
theorem in_X8_mapped_X8 : ∀ w ∈ wsX80, w ∈ wsX8_mapped := by decide +kernel
theorem in_X8_mapped_X5 : ∀ w ∈ wsX50, w ∈ wsX8_mapped := by decide +kernel
theorem in_X8_mapped_X1 : ∀ w ∈ wsX10, w ∈ wsX8_mapped := by decide +kernel
theorem lk_X8_mapped_65 : Cond.fieldLink RX8 65 "CellCover" "covered" "Z" ∈ wsX8_mapped := by decide +kernel
theorem lk_X8_mapped_51 : Cond.fieldLink RX8 51 "CellCover" "told" "LCellCover$Cover;" ∈ wsX8_mapped := by decide +kernel
theorem lk_X8_mapped_19 : Cond.fieldLink RX8 19 "CellCover" "net" "LCellCover$Net;" ∈ wsX8_mapped := by decide +kernel
theorem lk_X8_mapped_103 : Cond.fieldLink RX8 103 "CellCover$Net" "outputs" "I" ∈ wsX8_mapped := by decide +kernel
theorem lk_X8_mapped_235 : Cond.fieldLink RX8 235 "CellCover$Cover" "value" "[I" ∈ wsX8_mapped := by decide +kernel
set_option maxHeartbeats 4000000 in
set_option maxRecDepth 100000 in
theorem w_X8_mapped_23 {p : Program} {l : Launch} {e : Env} {s : State} {m : MethodId} {args : Array Value} {below : List Frame} {meth : Method} {c : Code} {G : GT} {A : Nat → Prop} (F : CallFix p m c cX8_mapped 5 s args wsX8_mapped RX8) (hr : meth.sig.returnType = (some .int)) (hlk : meth.locks = false) (hK : va_K G.1 vwCl (tyl G) s) (out : Int32 × St) : ∀ n : Nat, ∀ (S : St) (x3 : Int32) (x4 : Int32) (H : Heap) (locs : List Loc) (ls : Array Slot), Wd shC idsC G A S H → va_S A s.heap H locs → lv_has ls 5 [(0, .ref (G.2.2 0 0)), (3, .int x3), (4, .int x4)] → l_X8_mapped_23 n S x3 x4 = some out → W p l e rm_X8_mapped s m args below meth c H locs 0 0 (MQ below (QI shC idsC G A out) args s 0 0 A) (F0 m 23 ls []) := by
  intro n
  induction n with
  | zero =>
    intro S x3 x4 H locs ls hW hS hl h
    cases h
  | succ n Kb =>
    generalize hkb : l_X8_mapped_23 n = kb at Kb
    intro S x3 x4 H locs ls hW hS hl h
    rw [show l_X8_mapped_23 (n + 1) = b_X8_mapped_23 (l_X8_mapped_23 n) from rfl, hkb] at h
    unfold b_X8_mapped_23 at h
    refine lv_iload F.1 F.2.1 dX8_mapped_23 (lv_at hl 2 rfl) ?_
    refine lv_aload_n F.1 F.2.1 dX8_mapped_25 rfl (lv_at hl 0 rfl) ?_
    refine rw_get (q0 := 0) F hK hW idC_0 rfl rfl in_X8_mapped_X8 1 (by decide) lk_X8_mapped_19 rfl dX8_mapped_26 ?_
    refine rw_get (q0 := 2) F hK hW idC_2 rfl rfl in_X8_mapped_X5 10 (by decide) lk_X8_mapped_103 rfl dX8_mapped_29 ?_
    refine lv_icmp_ge (tgt := 64) F.1 F.2.1 dX8_mapped_32 (by decide) (fun c_4 => ?_) (fun c_4 => ?_)
    · have h := (if_pos c_4).symm.trans h
      refine lv_iload_n F.1 F.2.1 dX8_mapped_64 rfl (lv_at hl 1 rfl) ?_
      exact rw_ret F hr hlk hK hW hS h dX8_mapped_65
    · have h := (if_neg c_4).symm.trans h
      refine lv_iload_n F.1 F.2.1 dX8_mapped_35 rfl (lv_at hl 1 rfl) ?_
      refine lv_aload_n F.1 F.2.1 dX8_mapped_36 rfl (lv_at hl 0 rfl) ?_
      refine rw_get (q0 := 0) F hK hW idC_0 rfl rfl in_X8_mapped_X8 5 (by decide) lk_X8_mapped_51 rfl dX8_mapped_37 ?_
      refine rw_get (q0 := 6 + 0) F hK hW (idC_6 0 (by decide)) rfl rfl in_X8_mapped_X1 10 (by decide) lk_X8_mapped_235 rfl dX8_mapped_40 ?_
      refine lv_aload_n F.1 F.2.1 dX8_mapped_43 rfl (lv_at hl 0 rfl) ?_
      refine rw_get (q0 := 0) F hK hW idC_0 rfl rfl in_X8_mapped_X8 1 (by decide) lk_X8_mapped_19 rfl dX8_mapped_44 ?_
      refine lv_iload F.1 F.2.1 dX8_mapped_47 (lv_at hl 2 rfl) ?_
      obtain ⟨r_6, S_7, hq_5, h⟩ := bi_some h
      refine rw_vi F hK hW hS [.int x4] (rest := [.ref (G.2.2 34 0), .int x3]) (c_X5_outputVertex l G A x4 S (r_6, S_7) hq_5) (cwV 1 F.2.2.2.2 gX8_mapped_X5_outputVertex rfl rfl rfl (by decide +kernel) ⟨Nat.le_of_ble_eq_true rfl, Nat.le_of_ble_eq_true rfl⟩) (rw_recv (q0 := 2) hK hW idC_2 rfl rfl) rfl hl.1 rfl (Nat.le_of_ble_eq_true rfl) dX8_mapped_49 (fun H locs hW hS => ?_)
      obtain ⟨b_8, h⟩ := gd_some h
      refine rw_iald (q0 := 61 + 0) F hK hW (idC_34 0 (by decide)) (fun _ => rfl) (ix_in b_8) dX8_mapped_52 ?_
      refine lv_topi (fun v_9 ev_9 => ?_)
      have h := lt_n ev_9 h
      refine lv_iload F.1 F.2.1 dX8_mapped_53 (lv_at hl 2 rfl) ?_
      refine lv_ishl F.1 F.2.1 dX8_mapped_55 ?_
      refine lv_ior F.1 F.2.1 dX8_mapped_56 ?_
      refine lv_topi (fun v_10 ev_10 => ?_)
      have h := lt_n ev_10 h
      refine lv_istore_n (lv' := [(3, .int v_10), (0, .ref (G.2.2 0 0)), (4, .int x4)]) F.1 F.2.1 dX8_mapped_57 rfl hl (by decide) rfl (fun ls hl => ?_)
      obtain ⟨v_11, ev_11⟩ : ∃ y : Int32, y = x4 + 1 := ⟨_, rfl⟩
      have h := lt_n ev_11 h
      refine lv_iinc (v := v_11) (lv' := [(4, .int v_11), (3, .int v_10), (0, .ref (G.2.2 0 0))]) F.1 F.2.1 dX8_mapped_58 hl (k := 2) rfl (by rw [ev_11]; rfl) (by decide) rfl (fun ls hl => ?_)
      refine lv_goto (tgt := 23) F.1 F.2.1 dX8_mapped_61 (by decide) ?_
      exact Kb _ _ _ _ _ _  hW hS (lv_sub hl [2, 1, 0] rfl) h
set_option maxHeartbeats 4000000 in
set_option maxRecDepth 100000 in
theorem c_X8_mapped (l : Launch) (G : GT) (A : Nat → Prop) (a0 : Int64) (S : St) (out : Int32 × St) (h : f_X8_mapped a0 S = some out) : Met l yX8_mapped wsX8_mapped rm_X8_mapped (va_Pc [.ref (G.2.2 0 0), .long a0] (WD shC idsC G A S)) (QI shC idsC G A out) 0 0 A := by
  refine Met.ofW (cc := cX8_mapped) (maxL := 5) (ret := (some .int)) (by decide) rfl ?_
  intro p e s m args below meth c s₁ B hml hv
  obtain ⟨rfl, hW, hK⟩ := hv
  have F : CallFix p m c cX8_mapped 5 s _ wsX8_mapped RX8 := ⟨B.exec, B.bytes, hml, findClass_of_methodNamed B.named, atoms_spec (ws := wsX8_mapped) B.pre⟩
  have hr := B.returns
  have hlk := B.notSynchronized
  have hS : va_S A s.heap s.heap [] := va_S.rf
  have hl := lv_entry ([.ref (G.2.2 0 0), .long a0]) (n := 5) (Nat.le_of_ble_eq_true rfl)
  rw [lg_entry_eq]
  generalize (lg_sl ([.ref (G.2.2 0 0), .long a0]) ++ List.replicate (5 - (lg_sl ([.ref (G.2.2 0 0), .long a0])).length) Slot.unset).toArray = ls at hl ⊢
  have hl : lv_has ls 5 [(0, .ref (G.2.2 0 0)), (1, .long a0)] := hl
  unfold f_X8_mapped at h
  refine lv_aload_n F.1 F.2.1 dX8_mapped_0 rfl (lv_at hl 0 rfl) ?_
  refine rw_get (q0 := 0) F hK hW idC_0 rfl rfl in_X8_mapped_X8 8 (by decide) lk_X8_mapped_65 rfl dX8_mapped_1 ?_
  refine lv_if_ne (tgt := 10) F.1 F.2.1 dX8_mapped_4 (by decide) (fun c_1 => ?_) (fun c_1 => ?_)
  · have h := (if_neg c_1).symm.trans h
    refine lv_aload_n F.1 F.2.1 dX8_mapped_10 rfl (lv_at hl 0 rfl) ?_
    refine rw_get (q0 := 0) F hK hW idC_0 rfl rfl in_X8_mapped_X8 5 (by decide) lk_X8_mapped_51 rfl dX8_mapped_11 ?_
    refine lv_lload_n F.1 F.2.1 dX8_mapped_14 rfl (lv_at hl 1 rfl) ?_
    obtain ⟨q_2, hq_2, h⟩ := bv_some h
    refine rw_vv F hK hW hS [.long a0] (rest := []) (c_X1_work l G A 0 (by decide) a0 S q_2 hq_2) (cwV 1 F.2.2.2.2 gX8_mapped_X1_work rfl rfl rfl (by decide +kernel) ⟨Nat.le_of_ble_eq_true rfl, Nat.le_of_ble_eq_true rfl⟩) (rw_recv (q0 := 6 + 0) hK hW (idC_6 0 (by decide)) rfl rfl) rfl hl.1 rfl (Nat.le_of_ble_eq_true rfl) dX8_mapped_15 (fun H locs hW hS => ?_)
    refine lv_iconst (v := 0) F.1 F.2.1 dX8_mapped_18 (by decide) ?_
    refine lv_istore_n (lv' := [(3, .int 0), (0, .ref (G.2.2 0 0)), (1, .long a0)]) F.1 F.2.1 dX8_mapped_19 rfl hl (by decide) rfl (fun ls hl => ?_)
    refine lv_iconst (v := 0) F.1 F.2.1 dX8_mapped_20 (by decide) ?_
    refine lv_istore (lv' := [(4, .int 0), (3, .int 0), (0, .ref (G.2.2 0 0)), (1, .long a0)]) F.1 F.2.1 dX8_mapped_21 hl (by decide) rfl (fun ls hl => ?_)
    refine w_X8_mapped_23 F hr hlk hK out   5000 _ _ _ _ _ _  hW hS (lv_sub hl [2, 1, 0] rfl) h
  · have h := (if_pos c_1).symm.trans h
    refine lv_bipush (v := -2) F.1 F.2.1 dX8_mapped_7 (by decide) ?_
    exact rw_ret F hr hlk hK hW hS h dX8_mapped_9
/-! CellCover.about(III)I -/
abbrev rm_X8_about : Room := { frames := 1, cells := 0, slots := 0, locals := 25 }
theorem in_X8_about_X8 : ∀ w ∈ wsX80, w ∈ wsX8_about := by decide +kernel
theorem in_X8_about_X3 : ∀ w ∈ wsX30, w ∈ wsX8_about := by decide +kernel
theorem in_X8_about_X0 : ∀ w ∈ wsX00, w ∈ wsX8_about := by decide +kernel
theorem lk_X8_about_33 : Cond.fieldLink RX8 33 "CellCover" "library" "LCellCover$Library;" ∈ wsX8_about := by decide +kernel
theorem lk_X8_about_125 : Cond.fieldLink RX8 125 "CellCover$Library" "cells" "[LCellCover$Cell;" ∈ wsX8_about := by decide +kernel
theorem lk_X8_about_238 : Cond.fieldLink RX8 238 "CellCover$Cell" "area" "I" ∈ wsX8_about := by decide +kernel
theorem lk_X8_about_241 : Cond.fieldLink RX8 241 "CellCover$Cell" "delay" "I" ∈ wsX8_about := by decide +kernel
theorem lk_X8_about_244 : Cond.fieldLink RX8 244 "CellCover$Cell" "symbols" "I" ∈ wsX8_about := by decide +kernel
theorem lk_X8_about_247 : Cond.fieldLink RX8 247 "CellCover$Cell" "pinBits" "I" ∈ wsX8_about := by decide +kernel
set_option maxHeartbeats 4000000 in
set_option maxRecDepth 100000 in
theorem w_X8_about_104 {p : Program} {l : Launch} {e : Env} {s : State} {m : MethodId} {args : Array Value} {below : List Frame} {meth : Method} {c : Code} {G : GT} {A : Nat → Prop} (F : CallFix p m c cX8_about 5 s args wsX8_about RX8) (hr : meth.sig.returnType = (some .int)) (hlk : meth.locks = false) (hK : va_K G.1 vwCl (tyl G) s) (out : Int32 × St) : ∀ (S : St) (y0 : Int32) (H : Heap) (locs : List Loc) (ls : Array Slot), Wd shC idsC G A S H → va_S A s.heap H locs → lv_has ls 5 [] → j_X8_about_104 S y0 = some out → W p l e rm_X8_about s m args below meth c H locs 0 0 (MQ below (QI shC idsC G A out) args s 0 0 A) (F0 m 104 ls [.int y0]) := by
  intro S y0 H locs ls hW hS hl h
  unfold j_X8_about_104 at h
  exact rw_ret F hr hlk hK hW hS h dX8_about_104
set_option maxHeartbeats 4000000 in
set_option maxRecDepth 100000 in
theorem w_X8_about_94 {p : Program} {l : Launch} {e : Env} {s : State} {m : MethodId} {args : Array Value} {below : List Frame} {meth : Method} {c : Code} {G : GT} {A : Nat → Prop} (F : CallFix p m c cX8_about 5 s args wsX8_about RX8) (hr : meth.sig.returnType = (some .int)) (hlk : meth.locks = false) (hK : va_K G.1 vwCl (tyl G) s) (out : Int32 × St) : ∀ (S : St) (H : Heap) (locs : List Loc) (ls : Array Slot), Wd shC idsC G A S H → va_S A s.heap H locs → lv_has ls 5 [] → j_X8_about_94 S = some out → W p l e rm_X8_about s m args below meth c H locs 0 0 (MQ below (QI shC idsC G A out) args s 0 0 A) (F0 m 94 ls []) := by
  intro S H locs ls hW hS hl h
  unfold j_X8_about_94 at h
  refine lv_iconst (v := -1) F.1 F.2.1 dX8_about_94 (by decide) ?_
  refine lv_goto (tgt := 104) F.1 F.2.1 dX8_about_95 (by decide) ?_
  exact w_X8_about_104 F hr hlk hK out  _ _ _ _ _  hW hS hl h
set_option maxHeartbeats 4000000 in
set_option maxRecDepth 100000 in
theorem c_X8_about (l : Launch) (G : GT) (A : Nat → Prop) (a0 : Int32) (a1 : Int32) (a2 : Int32) (S : St) (out : Int32 × St) (h : f_X8_about a0 a1 a2 S = some out) : Met l yX8_about wsX8_about rm_X8_about (va_Pc [.ref (G.2.2 0 0), .int a0, .int a1, .int a2] (WD shC idsC G A S)) (QI shC idsC G A out) 0 0 A := by
  refine Met.ofW (cc := cX8_about) (maxL := 5) (ret := (some .int)) (by decide) rfl ?_
  intro p e s m args below meth c s₁ B hml hv
  obtain ⟨rfl, hW, hK⟩ := hv
  have F : CallFix p m c cX8_about 5 s _ wsX8_about RX8 := ⟨B.exec, B.bytes, hml, findClass_of_methodNamed B.named, atoms_spec (ws := wsX8_about) B.pre⟩
  have hr := B.returns
  have hlk := B.notSynchronized
  have hS : va_S A s.heap s.heap [] := va_S.rf
  have hl := lv_entry ([.ref (G.2.2 0 0), .int a0, .int a1, .int a2]) (n := 5) (Nat.le_of_ble_eq_true rfl)
  rw [lg_entry_eq]
  generalize (lg_sl ([.ref (G.2.2 0 0), .int a0, .int a1, .int a2]) ++ List.replicate (5 - (lg_sl ([.ref (G.2.2 0 0), .int a0, .int a1, .int a2])).length) Slot.unset).toArray = ls at hl ⊢
  have hl : lv_has ls 5 [(0, .ref (G.2.2 0 0)), (1, .int a0), (2, .int a1), (3, .int a2)] := hl
  unfold f_X8_about at h
  refine lv_aload_n F.1 F.2.1 dX8_about_0 rfl (lv_at hl 0 rfl) ?_
  refine rw_get (q0 := 0) F hK hW idC_0 rfl rfl in_X8_about_X8 3 (by decide) lk_X8_about_33 rfl dX8_about_1 ?_
  refine lv_iload_n F.1 F.2.1 dX8_about_4 rfl (lv_at hl 1 rfl) ?_
  obtain ⟨r_2, S_3, hq_1, h⟩ := bi_some h
  refine rw_vi F hK hW hS [.int a0] (rest := []) (c_X3_has l G A a0 S (r_2, S_3) hq_1) (cwV 1 F.2.2.2.2 gX8_about_X3_has rfl rfl rfl (by decide +kernel) ⟨Nat.le_of_ble_eq_true rfl, Nat.le_of_ble_eq_true rfl⟩) (rw_recv (q0 := 4) hK hW idC_4 rfl rfl) rfl hl.1 rfl (Nat.le_of_ble_eq_true rfl) dX8_about_5 (fun H locs hW hS => ?_)
  refine lv_if_ne (tgt := 13) F.1 F.2.1 dX8_about_8 (by decide) (fun c_4 => ?_) (fun c_4 => ?_)
  · have h := (if_neg c_4).symm.trans h
    refine lv_aload_n F.1 F.2.1 dX8_about_13 rfl (lv_at hl 0 rfl) ?_
    refine rw_get (q0 := 0) F hK hW idC_0 rfl rfl in_X8_about_X8 3 (by decide) lk_X8_about_33 rfl dX8_about_14 ?_
    refine rw_get (q0 := 4) F hK hW idC_4 rfl rfl in_X8_about_X3 0 (by decide) lk_X8_about_125 rfl dX8_about_17 ?_
    refine lv_iload_n F.1 F.2.1 dX8_about_20 rfl (lv_at hl 1 rfl) ?_
    obtain ⟨b_5, h⟩ := gd_some h
    refine rw_aald (q0 := 44) F hK hW idC_24 (fun _ => rfl) (ix_in b_5) dX8_about_21 ?_
    refine lv_astore (lv' := [(4, .ref (G.2.2 8 a0.toNatClampNeg)), (0, .ref (G.2.2 0 0)), (1, .int a0), (2, .int a1), (3, .int a2)]) F.1 F.2.1 dX8_about_22 hl (by decide) rfl (fun ls hl => ?_)
    refine lv_iload_n F.1 F.2.1 dX8_about_24 rfl (lv_at hl 3 rfl) ?_
    by_cases c_6 : a1 = 0
    · have h := (if_pos c_6).symm.trans h
      refine lv_tableIn (off := 35) (tgt := 60) F.1 F.2.1 dX8_about_25 (by rw [c_6]; decide) (by rw [c_6]; decide) (by rw [c_6]; rfl) (by decide) ?_
      refine lv_aload F.1 F.2.1 dX8_about_60 (lv_at hl 0 rfl) ?_
      refine rw_get (q0 := 9 + a0.toNatClampNeg) F hK hW (idC_8 _ (ix_lt b_5)) rfl rfl in_X8_about_X0 4 (by decide) lk_X8_about_238 rfl dX8_about_62 ?_
      exact rw_ret F hr hlk hK hW hS h dX8_about_65
    · have h := (if_neg c_6).symm.trans h
      by_cases c_7 : a1 = 1
      · have h := (if_pos c_7).symm.trans h
        refine lv_tableIn (off := 41) (tgt := 66) F.1 F.2.1 dX8_about_25 (by rw [c_7]; decide) (by rw [c_7]; decide) (by rw [c_7]; rfl) (by decide) ?_
        refine lv_aload F.1 F.2.1 dX8_about_66 (lv_at hl 0 rfl) ?_
        refine rw_get (q0 := 9 + a0.toNatClampNeg) F hK hW (idC_8 _ (ix_lt b_5)) rfl rfl in_X8_about_X0 5 (by decide) lk_X8_about_241 rfl dX8_about_68 ?_
        exact rw_ret F hr hlk hK hW hS h dX8_about_71
      · have h := (if_neg c_7).symm.trans h
        by_cases c_8 : a1 = 2
        · have h := (if_pos c_8).symm.trans h
          refine lv_tableIn (off := 47) (tgt := 72) F.1 F.2.1 dX8_about_25 (by rw [c_8]; decide) (by rw [c_8]; decide) (by rw [c_8]; rfl) (by decide) ?_
          refine lv_aload F.1 F.2.1 dX8_about_72 (lv_at hl 0 rfl) ?_
          refine rw_get (q0 := 9 + a0.toNatClampNeg) F hK hW (idC_8 _ (ix_lt b_5)) rfl rfl in_X8_about_X0 1 (by decide) lk_X8_about_244 rfl dX8_about_74 ?_
          exact rw_ret F hr hlk hK hW hS h dX8_about_77
        · have h := (if_neg c_8).symm.trans h
          by_cases c_9 : a1 = 3
          · have h := (if_pos c_9).symm.trans h
            refine lv_tableIn (off := 53) (tgt := 78) F.1 F.2.1 dX8_about_25 (by rw [c_9]; decide) (by rw [c_9]; decide) (by rw [c_9]; rfl) (by decide) ?_
            refine lv_aload F.1 F.2.1 dX8_about_78 (lv_at hl 0 rfl) ?_
            refine rw_get (q0 := 9 + a0.toNatClampNeg) F hK hW (idC_8 _ (ix_lt b_5)) rfl rfl in_X8_about_X0 3 (by decide) lk_X8_about_247 rfl dX8_about_80 ?_
            exact rw_ret F hr hlk hK hW hS h dX8_about_83
          · have h := (if_neg c_9).symm.trans h
            by_cases c_10 : a1 = 4
            · have h := (if_pos c_10).symm.trans h
              refine lv_tableIn (off := 59) (tgt := 84) F.1 F.2.1 dX8_about_25 (by rw [c_10]; decide) (by rw [c_10]; decide) (by rw [c_10]; rfl) (by decide) ?_
              refine lv_iload_n F.1 F.2.1 dX8_about_84 rfl (lv_at hl 4 rfl) ?_
              refine lv_if_lt (tgt := 94) F.1 F.2.1 dX8_about_85 (by decide) (fun c_11 => ?_) (fun c_11 => ?_)
              · have h := (if_pos c_11).symm.trans h
                exact w_X8_about_94 F hr hlk hK out  _ _ _ _  hW hS (lv_sub hl [] rfl) h
              · have h := (if_neg c_11).symm.trans h
                refine lv_iload_n F.1 F.2.1 dX8_about_88 rfl (lv_at hl 4 rfl) ?_
                refine lv_bipush (v := 64) F.1 F.2.1 dX8_about_89 (by decide) ?_
                refine lv_icmp_lt (tgt := 98) F.1 F.2.1 dX8_about_91 (by decide) (fun c_12 => ?_) (fun c_12 => ?_)
                · have h := (if_pos c_12).symm.trans h
                  refine lv_aload F.1 F.2.1 dX8_about_98 (lv_at hl 0 rfl) ?_
                  refine lv_iload_n F.1 F.2.1 dX8_about_100 rfl (lv_at hl 4 rfl) ?_
                  obtain ⟨r_14, S_15, hq_13, h⟩ := bi_some h
                  refine rw_vi F hK hW hS [.int a2] (rest := []) (c_X0_valueFor l G A a0.toNatClampNeg (ix_lt b_5) a2 S_3 (r_14, S_15) hq_13) (cwV 1 F.2.2.2.2 gX8_about_X0_valueFor rfl rfl rfl (by decide +kernel) ⟨Nat.le_of_ble_eq_true rfl, Nat.le_of_ble_eq_true rfl⟩) (rw_recv (q0 := 9 + a0.toNatClampNeg) hK hW (idC_8 _ (ix_lt b_5)) rfl rfl) rfl hl.1 rfl (Nat.le_of_ble_eq_true rfl) dX8_about_101 (fun H locs hW hS => ?_)
                  exact w_X8_about_104 F hr hlk hK out  _ _ _ _ _  hW hS (lv_sub hl [] rfl) h
                · have h := (if_neg c_12).symm.trans h
                  exact w_X8_about_94 F hr hlk hK out  _ _ _ _  hW hS (lv_sub hl [] rfl) h
            · have h := (if_neg c_10).symm.trans h
              have nc_6 := lv_neT c_6 (a := 0) (by decide)
              have nc_7 := lv_neT c_7 (a := 1) (by decide)
              have nc_8 := lv_neT c_8 (a := 2) (by decide)
              have nc_9 := lv_neT c_9 (a := 3) (by decide)
              have nc_10 := lv_neT c_10 (a := 4) (by decide)
              refine lv_tableOut (tgt := 105) F.1 F.2.1 dX8_about_25 (by omega) (by decide) ?_
              refine lv_iconst (v := -1) F.1 F.2.1 dX8_about_105 (by decide) ?_
              exact rw_ret F hr hlk hK hW hS h dX8_about_106
  · have h := (if_pos c_4).symm.trans h
    refine lv_iconst (v := -1) F.1 F.2.1 dX8_about_11 (by decide) ?_
    exact rw_ret F hr hlk hK hW hS h dX8_about_12
/-! CellCover$Library.countThere()I -/
abbrev rm_X3_countThere : Room := { frames := 0, cells := 0, slots := 0, locals := 0 }
theorem in_X3_countThere_X3 : ∀ w ∈ wsX30, w ∈ wsX3_countThere := by decide +kernel
theorem in_X3_countThere_X0 : ∀ w ∈ wsX00, w ∈ wsX3_countThere := by decide +kernel
theorem lk_X3_countThere_17 : Cond.fieldLink RX3 17 "CellCover$Library" "many" "I" ∈ wsX3_countThere := by decide +kernel
theorem lk_X3_countThere_11 : Cond.fieldLink RX3 11 "CellCover$Library" "cells" "[LCellCover$Cell;" ∈ wsX3_countThere := by decide +kernel
theorem lk_X3_countThere_22 : Cond.fieldLink RX3 22 "CellCover$Cell" "there" "Z" ∈ wsX3_countThere := by decide +kernel
set_option maxHeartbeats 4000000 in
set_option maxRecDepth 100000 in
theorem w_X3_countThere_27 {p : Program} {l : Launch} {e : Env} {s : State} {m : MethodId} {args : Array Value} {below : List Frame} {meth : Method} {c : Code} {G : GT} {A : Nat → Prop} (F : CallFix p m c cX3_countThere 3 s args wsX3_countThere RX3) (hr : meth.sig.returnType = (some .int)) (hlk : meth.locks = false) (hK : va_K G.1 vwCl (tyl G) s) (out : Int32 × St) (kb : St → Int32 → Int32 → Option (Int32 × St)) (Kb : ∀ (S : St) (x1 : Int32) (x2 : Int32) (H : Heap) (locs : List Loc) (ls : Array Slot), Wd shC idsC G A S H → va_S A s.heap H locs → lv_has ls 3 [(0, .ref (G.2.2 4 0)), (1, .int x1), (2, .int x2)] → kb S x1 x2 = some out → W p l e rm_X3_countThere s m args below meth c H locs 0 0 (MQ below (QI shC idsC G A out) args s 0 0 A) (F0 m 4 ls [])) : ∀ (S : St) (x1 : Int32) (x2 : Int32) (H : Heap) (locs : List Loc) (ls : Array Slot), Wd shC idsC G A S H → va_S A s.heap H locs → lv_has ls 3 [(0, .ref (G.2.2 4 0)), (1, .int x1), (2, .int x2)] → j_X3_countThere_27 kb S x1 x2 = some out → W p l e rm_X3_countThere s m args below meth c H locs 0 0 (MQ below (QI shC idsC G A out) args s 0 0 A) (F0 m 27 ls []) := by
  intro S x1 x2 H locs ls hW hS hl h
  unfold j_X3_countThere_27 at h
  obtain ⟨v_4, ev_4⟩ : ∃ y : Int32, y = x2 + 1 := ⟨_, rfl⟩
  have h := lt_n ev_4 h
  refine lv_iinc (v := v_4) (lv' := [(2, .int v_4), (0, .ref (G.2.2 4 0)), (1, .int x1)]) F.1 F.2.1 dX3_countThere_27 hl (k := 2) rfl (by rw [ev_4]; rfl) (by decide) rfl (fun ls hl => ?_)
  refine lv_goto (tgt := 4) F.1 F.2.1 dX3_countThere_30 (by decide) ?_
  exact Kb _ _ _ _ _ _  hW hS (lv_sub hl [1, 2, 0] rfl) h
set_option maxHeartbeats 4000000 in
set_option maxRecDepth 100000 in
theorem w_X3_countThere_4 {p : Program} {l : Launch} {e : Env} {s : State} {m : MethodId} {args : Array Value} {below : List Frame} {meth : Method} {c : Code} {G : GT} {A : Nat → Prop} (F : CallFix p m c cX3_countThere 3 s args wsX3_countThere RX3) (hr : meth.sig.returnType = (some .int)) (hlk : meth.locks = false) (hK : va_K G.1 vwCl (tyl G) s) (out : Int32 × St) : ∀ n : Nat, ∀ (S : St) (x1 : Int32) (x2 : Int32) (H : Heap) (locs : List Loc) (ls : Array Slot), Wd shC idsC G A S H → va_S A s.heap H locs → lv_has ls 3 [(0, .ref (G.2.2 4 0)), (1, .int x1), (2, .int x2)] → l_X3_countThere_4 n S x1 x2 = some out → W p l e rm_X3_countThere s m args below meth c H locs 0 0 (MQ below (QI shC idsC G A out) args s 0 0 A) (F0 m 4 ls []) := by
  intro n
  induction n with
  | zero =>
    intro S x1 x2 H locs ls hW hS hl h
    cases h
  | succ n Kb =>
    generalize hkb : l_X3_countThere_4 n = kb at Kb
    intro S x1 x2 H locs ls hW hS hl h
    rw [show l_X3_countThere_4 (n + 1) = b_X3_countThere_4 (l_X3_countThere_4 n) from rfl, hkb] at h
    unfold b_X3_countThere_4 at h
    refine lv_iload_n F.1 F.2.1 dX3_countThere_4 rfl (lv_at hl 2 rfl) ?_
    refine lv_aload_n F.1 F.2.1 dX3_countThere_5 rfl (lv_at hl 0 rfl) ?_
    refine rw_get (q0 := 4) F hK hW idC_4 rfl rfl in_X3_countThere_X3 1 (by decide) lk_X3_countThere_17 rfl dX3_countThere_6 ?_
    refine lv_icmp_ge (tgt := 33) F.1 F.2.1 dX3_countThere_9 (by decide) (fun c_1 => ?_) (fun c_1 => ?_)
    · have h := (if_pos c_1).symm.trans h
      refine lv_iload_n F.1 F.2.1 dX3_countThere_33 rfl (lv_at hl 1 rfl) ?_
      exact rw_ret F hr hlk hK hW hS h dX3_countThere_34
    · have h := (if_neg c_1).symm.trans h
      refine lv_aload_n F.1 F.2.1 dX3_countThere_12 rfl (lv_at hl 0 rfl) ?_
      refine rw_get (q0 := 4) F hK hW idC_4 rfl rfl in_X3_countThere_X3 0 (by decide) lk_X3_countThere_11 rfl dX3_countThere_13 ?_
      refine lv_iload_n F.1 F.2.1 dX3_countThere_16 rfl (lv_at hl 2 rfl) ?_
      obtain ⟨b_2, h⟩ := gd_some h
      refine rw_aald (q0 := 44) F hK hW idC_24 (fun _ => rfl) (ix_in b_2) dX3_countThere_17 ?_
      refine rw_get (q0 := 9 + x2.toNatClampNeg) F hK hW (idC_8 _ (ix_lt b_2)) rfl rfl in_X3_countThere_X0 6 (by decide) lk_X3_countThere_22 rfl dX3_countThere_18 ?_
      refine lv_if_eq (tgt := 27) F.1 F.2.1 dX3_countThere_21 (by decide) (fun c_3 => ?_) (fun c_3 => ?_)
      · have h := (if_pos c_3).symm.trans h
        exact w_X3_countThere_27 F hr hlk hK out kb Kb _ _ _ _ _ _  hW hS hl h
      · have h := (if_neg c_3).symm.trans h
        obtain ⟨v_5, ev_5⟩ : ∃ y : Int32, y = x1 + 1 := ⟨_, rfl⟩
        have h := lt_n ev_5 h
        refine lv_iinc (v := v_5) (lv' := [(1, .int v_5), (0, .ref (G.2.2 4 0)), (2, .int x2)]) F.1 F.2.1 dX3_countThere_24 hl (k := 1) rfl (by rw [ev_5]; rfl) (by decide) rfl (fun ls hl => ?_)
        exact w_X3_countThere_27 F hr hlk hK out kb Kb _ _ _ _ _ _  hW hS (lv_sub hl [1, 0, 2] rfl) h
set_option maxHeartbeats 4000000 in
set_option maxRecDepth 100000 in
theorem c_X3_countThere (l : Launch) (G : GT) (A : Nat → Prop) (S : St) (out : Int32 × St) (h : f_X3_countThere S = some out) : Met l yX3_countThere wsX3_countThere rm_X3_countThere (va_Pc [.ref (G.2.2 4 0)] (WD shC idsC G A S)) (QI shC idsC G A out) 0 0 A := by
  refine Met.ofW (cc := cX3_countThere) (maxL := 3) (ret := (some .int)) (by decide) rfl ?_
  intro p e s m args below meth c s₁ B hml hv
  obtain ⟨rfl, hW, hK⟩ := hv
  have F : CallFix p m c cX3_countThere 3 s _ wsX3_countThere RX3 := ⟨B.exec, B.bytes, hml, findClass_of_methodNamed B.named, atoms_spec (ws := wsX3_countThere) B.pre⟩
  have hr := B.returns
  have hlk := B.notSynchronized
  have hS : va_S A s.heap s.heap [] := va_S.rf
  have hl := lv_entry ([.ref (G.2.2 4 0)]) (n := 3) (Nat.le_of_ble_eq_true rfl)
  rw [lg_entry_eq]
  generalize (lg_sl ([.ref (G.2.2 4 0)]) ++ List.replicate (3 - (lg_sl ([.ref (G.2.2 4 0)])).length) Slot.unset).toArray = ls at hl ⊢
  have hl : lv_has ls 3 [(0, .ref (G.2.2 4 0))] := hl
  unfold f_X3_countThere at h
  refine lv_iconst (v := 0) F.1 F.2.1 dX3_countThere_0 (by decide) ?_
  refine lv_istore_n (lv' := [(1, .int 0), (0, .ref (G.2.2 4 0))]) F.1 F.2.1 dX3_countThere_1 rfl hl (by decide) rfl (fun ls hl => ?_)
  refine lv_iconst (v := 0) F.1 F.2.1 dX3_countThere_2 (by decide) ?_
  refine lv_istore_n (lv' := [(2, .int 0), (1, .int 0), (0, .ref (G.2.2 4 0))]) F.1 F.2.1 dX3_countThere_3 rfl hl (by decide) rfl (fun ls hl => ?_)
  refine w_X3_countThere_4 F hr hlk hK out   5000 _ _ _ _ _ _  hW hS (lv_sub hl [2, 1, 0] rfl) h
/-! CellCover.count(I)I -/
abbrev rm_X8_count : Room := { frames := 1, cells := 0, slots := 0, locals := 22 }
theorem in_X8_count_X8 : ∀ w ∈ wsX80, w ∈ wsX8_count := by decide +kernel
theorem in_X8_count_X5 : ∀ w ∈ wsX50, w ∈ wsX8_count := by decide +kernel
theorem in_X8_count_X7 : ∀ w ∈ wsX70, w ∈ wsX8_count := by decide +kernel
theorem in_X8_count_X6 : ∀ w ∈ wsX60, w ∈ wsX8_count := by decide +kernel
theorem in_X8_count_X1 : ∀ w ∈ wsX10, w ∈ wsX8_count := by decide +kernel
theorem lk_X8_count_19 : Cond.fieldLink RX8 19 "CellCover" "net" "LCellCover$Net;" ∈ wsX8_count := by decide +kernel
theorem lk_X8_count_69 : Cond.fieldLink RX8 69 "CellCover$Net" "nodes" "I" ∈ wsX8_count := by decide +kernel
theorem lk_X8_count_253 : Cond.fieldLink RX8 253 "CellCover$Net" "inputs" "I" ∈ wsX8_count := by decide +kernel
theorem lk_X8_count_103 : Cond.fieldLink RX8 103 "CellCover$Net" "outputs" "I" ∈ wsX8_count := by decide +kernel
theorem lk_X8_count_12 : Cond.fieldLink RX8 12 "CellCover" "vertices" "LCellCover$Vertices;" ∈ wsX8_count := by decide +kernel
theorem lk_X8_count_73 : Cond.fieldLink RX8 73 "CellCover$Vertices" "many" "I" ∈ wsX8_count := by decide +kernel
theorem lk_X8_count_256 : Cond.fieldLink RX8 256 "CellCover$Vertices" "living" "I" ∈ wsX8_count := by decide +kernel
theorem lk_X8_count_259 : Cond.fieldLink RX8 259 "CellCover$Vertices" "roots" "I" ∈ wsX8_count := by decide +kernel
theorem lk_X8_count_33 : Cond.fieldLink RX8 33 "CellCover" "library" "LCellCover$Library;" ∈ wsX8_count := by decide +kernel
theorem lk_X8_count_26 : Cond.fieldLink RX8 26 "CellCover" "tape" "LCellCover$Tape;" ∈ wsX8_count := by decide +kernel
theorem lk_X8_count_117 : Cond.fieldLink RX8 117 "CellCover$Tape" "length" "I" ∈ wsX8_count := by decide +kernel
theorem lk_X8_count_65 : Cond.fieldLink RX8 65 "CellCover" "covered" "Z" ∈ wsX8_count := by decide +kernel
theorem lk_X8_count_51 : Cond.fieldLink RX8 51 "CellCover" "told" "LCellCover$Cover;" ∈ wsX8_count := by decide +kernel
theorem lk_X8_count_212 : Cond.fieldLink RX8 212 "CellCover$Cover" "instances" "I" ∈ wsX8_count := by decide +kernel
set_option maxHeartbeats 4000000 in
set_option maxRecDepth 100000 in
theorem w_X8_count_135 {p : Program} {l : Launch} {e : Env} {s : State} {m : MethodId} {args : Array Value} {below : List Frame} {meth : Method} {c : Code} {G : GT} {A : Nat → Prop} (F : CallFix p m c cX8_count 2 s args wsX8_count RX8) (hr : meth.sig.returnType = (some .int)) (hlk : meth.locks = false) (hK : va_K G.1 vwCl (tyl G) s) (out : Int32 × St) : ∀ (S : St) (y0 : Int32) (H : Heap) (locs : List Loc) (ls : Array Slot), Wd shC idsC G A S H → va_S A s.heap H locs → lv_has ls 2 [] → j_X8_count_135 S y0 = some out → W p l e rm_X8_count s m args below meth c H locs 0 0 (MQ below (QI shC idsC G A out) args s 0 0 A) (F0 m 135 ls [.int y0]) := by
  intro S y0 H locs ls hW hS hl h
  unfold j_X8_count_135 at h
  exact rw_ret F hr hlk hK hW hS h dX8_count_135
set_option maxHeartbeats 4000000 in
set_option maxRecDepth 100000 in
theorem c_X8_count (l : Launch) (G : GT) (A : Nat → Prop) (a0 : Int32) (S : St) (out : Int32 × St) (h : f_X8_count a0 S = some out) : Met l yX8_count wsX8_count rm_X8_count (va_Pc [.ref (G.2.2 0 0), .int a0] (WD shC idsC G A S)) (QI shC idsC G A out) 0 0 A := by
  refine Met.ofW (cc := cX8_count) (maxL := 2) (ret := (some .int)) (by decide) rfl ?_
  intro p e s m args below meth c s₁ B hml hv
  obtain ⟨rfl, hW, hK⟩ := hv
  have F : CallFix p m c cX8_count 2 s _ wsX8_count RX8 := ⟨B.exec, B.bytes, hml, findClass_of_methodNamed B.named, atoms_spec (ws := wsX8_count) B.pre⟩
  have hr := B.returns
  have hlk := B.notSynchronized
  have hS : va_S A s.heap s.heap [] := va_S.rf
  have hl := lv_entry ([.ref (G.2.2 0 0), .int a0]) (n := 2) (Nat.le_of_ble_eq_true rfl)
  rw [lg_entry_eq]
  generalize (lg_sl ([.ref (G.2.2 0 0), .int a0]) ++ List.replicate (2 - (lg_sl ([.ref (G.2.2 0 0), .int a0])).length) Slot.unset).toArray = ls at hl ⊢
  have hl : lv_has ls 2 [(0, .ref (G.2.2 0 0)), (1, .int a0)] := hl
  unfold f_X8_count at h
  refine lv_iload_n F.1 F.2.1 dX8_count_0 rfl (lv_at hl 1 rfl) ?_
  by_cases c_1 : a0 = 0
  · have h := (if_pos c_1).symm.trans h
    refine lv_tableIn (off := 51) (tgt := 52) F.1 F.2.1 dX8_count_1 (by rw [c_1]; decide) (by rw [c_1]; decide) (by rw [c_1]; rfl) (by decide) ?_
    refine lv_aload_n F.1 F.2.1 dX8_count_52 rfl (lv_at hl 0 rfl) ?_
    refine rw_get (q0 := 0) F hK hW idC_0 rfl rfl in_X8_count_X8 1 (by decide) lk_X8_count_19 rfl dX8_count_53 ?_
    refine rw_get (q0 := 2) F hK hW idC_2 rfl rfl in_X8_count_X5 8 (by decide) lk_X8_count_69 rfl dX8_count_56 ?_
    exact rw_ret F hr hlk hK hW hS h dX8_count_59
  · have h := (if_neg c_1).symm.trans h
    by_cases c_2 : a0 = 1
    · have h := (if_pos c_2).symm.trans h
      refine lv_tableIn (off := 59) (tgt := 60) F.1 F.2.1 dX8_count_1 (by rw [c_2]; decide) (by rw [c_2]; decide) (by rw [c_2]; rfl) (by decide) ?_
      refine lv_aload_n F.1 F.2.1 dX8_count_60 rfl (lv_at hl 0 rfl) ?_
      refine rw_get (q0 := 0) F hK hW idC_0 rfl rfl in_X8_count_X8 1 (by decide) lk_X8_count_19 rfl dX8_count_61 ?_
      refine rw_get (q0 := 2) F hK hW idC_2 rfl rfl in_X8_count_X5 9 (by decide) lk_X8_count_253 rfl dX8_count_64 ?_
      exact rw_ret F hr hlk hK hW hS h dX8_count_67
    · have h := (if_neg c_2).symm.trans h
      by_cases c_3 : a0 = 2
      · have h := (if_pos c_3).symm.trans h
        refine lv_tableIn (off := 67) (tgt := 68) F.1 F.2.1 dX8_count_1 (by rw [c_3]; decide) (by rw [c_3]; decide) (by rw [c_3]; rfl) (by decide) ?_
        refine lv_aload_n F.1 F.2.1 dX8_count_68 rfl (lv_at hl 0 rfl) ?_
        refine rw_get (q0 := 0) F hK hW idC_0 rfl rfl in_X8_count_X8 1 (by decide) lk_X8_count_19 rfl dX8_count_69 ?_
        refine rw_get (q0 := 2) F hK hW idC_2 rfl rfl in_X8_count_X5 10 (by decide) lk_X8_count_103 rfl dX8_count_72 ?_
        exact rw_ret F hr hlk hK hW hS h dX8_count_75
      · have h := (if_neg c_3).symm.trans h
        by_cases c_4 : a0 = 3
        · have h := (if_pos c_4).symm.trans h
          refine lv_tableIn (off := 75) (tgt := 76) F.1 F.2.1 dX8_count_1 (by rw [c_4]; decide) (by rw [c_4]; decide) (by rw [c_4]; rfl) (by decide) ?_
          refine lv_aload_n F.1 F.2.1 dX8_count_76 rfl (lv_at hl 0 rfl) ?_
          refine rw_get (q0 := 0) F hK hW idC_0 rfl rfl in_X8_count_X8 0 (by decide) lk_X8_count_12 rfl dX8_count_77 ?_
          refine rw_get (q0 := 1) F hK hW idC_1 rfl rfl in_X8_count_X7 6 (by decide) lk_X8_count_73 rfl dX8_count_80 ?_
          exact rw_ret F hr hlk hK hW hS h dX8_count_83
        · have h := (if_neg c_4).symm.trans h
          by_cases c_5 : a0 = 4
          · have h := (if_pos c_5).symm.trans h
            refine lv_tableIn (off := 83) (tgt := 84) F.1 F.2.1 dX8_count_1 (by rw [c_5]; decide) (by rw [c_5]; decide) (by rw [c_5]; rfl) (by decide) ?_
            refine lv_aload_n F.1 F.2.1 dX8_count_84 rfl (lv_at hl 0 rfl) ?_
            refine rw_get (q0 := 0) F hK hW idC_0 rfl rfl in_X8_count_X8 0 (by decide) lk_X8_count_12 rfl dX8_count_85 ?_
            refine rw_get (q0 := 1) F hK hW idC_1 rfl rfl in_X8_count_X7 7 (by decide) lk_X8_count_256 rfl dX8_count_88 ?_
            exact rw_ret F hr hlk hK hW hS h dX8_count_91
          · have h := (if_neg c_5).symm.trans h
            by_cases c_6 : a0 = 5
            · have h := (if_pos c_6).symm.trans h
              refine lv_tableIn (off := 91) (tgt := 92) F.1 F.2.1 dX8_count_1 (by rw [c_6]; decide) (by rw [c_6]; decide) (by rw [c_6]; rfl) (by decide) ?_
              refine lv_aload_n F.1 F.2.1 dX8_count_92 rfl (lv_at hl 0 rfl) ?_
              refine rw_get (q0 := 0) F hK hW idC_0 rfl rfl in_X8_count_X8 0 (by decide) lk_X8_count_12 rfl dX8_count_93 ?_
              refine rw_get (q0 := 1) F hK hW idC_1 rfl rfl in_X8_count_X7 8 (by decide) lk_X8_count_259 rfl dX8_count_96 ?_
              exact rw_ret F hr hlk hK hW hS h dX8_count_99
            · have h := (if_neg c_6).symm.trans h
              by_cases c_7 : a0 = 6
              · have h := (if_pos c_7).symm.trans h
                refine lv_tableIn (off := 99) (tgt := 100) F.1 F.2.1 dX8_count_1 (by rw [c_7]; decide) (by rw [c_7]; decide) (by rw [c_7]; rfl) (by decide) ?_
                refine lv_aload_n F.1 F.2.1 dX8_count_100 rfl (lv_at hl 0 rfl) ?_
                refine rw_get (q0 := 0) F hK hW idC_0 rfl rfl in_X8_count_X8 3 (by decide) lk_X8_count_33 rfl dX8_count_101 ?_
                obtain ⟨r_9, S_10, hq_8, h⟩ := bi_some h
                refine rw_vi F hK hW hS [] (rest := []) (c_X3_countThere l G A  S (r_9, S_10) hq_8) (cwV 0 F.2.2.2.2 gX8_count_X3_countThere rfl rfl rfl (by decide +kernel) ⟨Nat.le_of_ble_eq_true rfl, Nat.le_of_ble_eq_true rfl⟩) (rw_recv (q0 := 4) hK hW idC_4 rfl rfl) rfl hl.1 rfl (Nat.le_of_ble_eq_true rfl) dX8_count_104 (fun H locs hW hS => ?_)
                exact rw_ret F hr hlk hK hW hS h dX8_count_107
              · have h := (if_neg c_7).symm.trans h
                by_cases c_11 : a0 = 7
                · have h := (if_pos c_11).symm.trans h
                  refine lv_tableIn (off := 107) (tgt := 108) F.1 F.2.1 dX8_count_1 (by rw [c_11]; decide) (by rw [c_11]; decide) (by rw [c_11]; rfl) (by decide) ?_
                  refine lv_aload_n F.1 F.2.1 dX8_count_108 rfl (lv_at hl 0 rfl) ?_
                  refine rw_get (q0 := 0) F hK hW idC_0 rfl rfl in_X8_count_X8 2 (by decide) lk_X8_count_26 rfl dX8_count_109 ?_
                  refine rw_get (q0 := 3) F hK hW idC_3 rfl rfl in_X8_count_X6 1 (by decide) lk_X8_count_117 rfl dX8_count_112 ?_
                  exact rw_ret F hr hlk hK hW hS h dX8_count_115
                · have h := (if_neg c_11).symm.trans h
                  by_cases c_12 : a0 = 8
                  · have h := (if_pos c_12).symm.trans h
                    refine lv_tableIn (off := 115) (tgt := 116) F.1 F.2.1 dX8_count_1 (by rw [c_12]; decide) (by rw [c_12]; decide) (by rw [c_12]; rfl) (by decide) ?_
                    refine lv_aload_n F.1 F.2.1 dX8_count_116 rfl (lv_at hl 0 rfl) ?_
                    refine rw_get (q0 := 0) F hK hW idC_0 rfl rfl in_X8_count_X8 8 (by decide) lk_X8_count_65 rfl dX8_count_117 ?_
                    refine lv_if_eq (tgt := 133) F.1 F.2.1 dX8_count_120 (by decide) (fun c_13 => ?_) (fun c_13 => ?_)
                    · have h := (if_pos c_13).symm.trans h
                      refine lv_bipush (v := -2) F.1 F.2.1 dX8_count_133 (by decide) ?_
                      exact w_X8_count_135 F hr hlk hK out  _ _ _ _ _  hW hS (lv_sub hl [] rfl) h
                    · have h := (if_neg c_13).symm.trans h
                      refine lv_aload_n F.1 F.2.1 dX8_count_123 rfl (lv_at hl 0 rfl) ?_
                      refine rw_get (q0 := 0) F hK hW idC_0 rfl rfl in_X8_count_X8 5 (by decide) lk_X8_count_51 rfl dX8_count_124 ?_
                      refine rw_get (q0 := 6 + 0) F hK hW (idC_6 0 (by decide)) rfl rfl in_X8_count_X1 11 (by decide) lk_X8_count_212 rfl dX8_count_127 ?_
                      refine lv_goto (tgt := 135) F.1 F.2.1 dX8_count_130 (by decide) ?_
                      exact w_X8_count_135 F hr hlk hK out  _ _ _ _ _  hW hS (lv_sub hl [] rfl) h
                  · have h := (if_neg c_12).symm.trans h
                    have nc_1 := lv_neT c_1 (a := 0) (by decide)
                    have nc_2 := lv_neT c_2 (a := 1) (by decide)
                    have nc_3 := lv_neT c_3 (a := 2) (by decide)
                    have nc_4 := lv_neT c_4 (a := 3) (by decide)
                    have nc_5 := lv_neT c_5 (a := 4) (by decide)
                    have nc_6 := lv_neT c_6 (a := 5) (by decide)
                    have nc_7 := lv_neT c_7 (a := 6) (by decide)
                    have nc_11 := lv_neT c_11 (a := 7) (by decide)
                    have nc_12 := lv_neT c_12 (a := 8) (by decide)
                    refine lv_tableOut (tgt := 136) F.1 F.2.1 dX8_count_1 (by omega) (by decide) ?_
                    refine lv_iconst (v := -1) F.1 F.2.1 dX8_count_136 (by decide) ?_
                    exact rw_ret F hr hlk hK hW hS h dX8_count_137
