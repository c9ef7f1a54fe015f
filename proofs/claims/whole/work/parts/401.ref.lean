/-! CellCoverModel.make()V -/
abbrev rm_X9_make : Room := { frames := 3, cells := 0, slots := 0, locals := 79 }
theorem in_X9_make_X9 : ∀ w ∈ wsX90, w ∈ wsX9_make := by decide +kernel
theorem lk_X9_make_163 : Cond.fieldLink RX9 163 "CellCoverModel" "vertices" "I" ∈ wsX9_make := by decide +kernel
theorem lk_X9_make_136 : Cond.fieldLink RX9 136 "CellCoverModel" "nodes" "I" ∈ wsX9_make := by decide +kernel
theorem lk_X9_make_40 : Cond.fieldLink RX9 40 "CellCoverModel" "vertexOf" "[I" ∈ wsX9_make := by decide +kernel
theorem lk_X9_make_7 : Cond.fieldLink RX9 7 "CellCoverModel" "nKind" "[I" ∈ wsX9_make := by decide +kernel
theorem lk_X9_make_13 : Cond.fieldLink RX9 13 "CellCoverModel" "nA" "[I" ∈ wsX9_make := by decide +kernel
theorem lk_X9_make_16 : Cond.fieldLink RX9 16 "CellCoverModel" "nB" "[I" ∈ wsX9_make := by decide +kernel
theorem lk_X9_make_19 : Cond.fieldLink RX9 19 "CellCoverModel" "nC" "[I" ∈ wsX9_make := by decide +kernel
theorem lk_X9_make_43 : Cond.fieldLink RX9 43 "CellCoverModel" "uses" "[I" ∈ wsX9_make := by decide +kernel
theorem lk_X9_make_46 : Cond.fieldLink RX9 46 "CellCoverModel" "lives" "[Z" ∈ wsX9_make := by decide +kernel
theorem lk_X9_make_50 : Cond.fieldLink RX9 50 "CellCoverModel" "root" "[Z" ∈ wsX9_make := by decide +kernel
theorem lk_X9_make_160 : Cond.fieldLink RX9 160 "CellCoverModel" "outputs" "I" ∈ wsX9_make := by decide +kernel
theorem lk_X9_make_22 : Cond.fieldLink RX9 22 "CellCoverModel" "outputOf" "[I" ∈ wsX9_make := by decide +kernel
theorem lk_X9_make_31 : Cond.fieldLink RX9 31 "CellCoverModel" "vWhat" "[I" ∈ wsX9_make := by decide +kernel
theorem lk_X9_make_34 : Cond.fieldLink RX9 34 "CellCoverModel" "vOne" "[I" ∈ wsX9_make := by decide +kernel
theorem lk_X9_make_37 : Cond.fieldLink RX9 37 "CellCoverModel" "vTwo" "[I" ∈ wsX9_make := by decide +kernel
set_option maxHeartbeats 4000000 in
set_option maxRecDepth 100000 in
theorem w_X9_make_112 {p : Program} {l : Launch} {e : Env} {s : State} {m : MethodId} {args : Array Value} {below : List Frame} {meth : Method} {c : Code} {G : GT} {A : Nat → Prop} (F : CallFix p m c cX9_make 3 s args wsX9_make RX9) (hr : meth.sig.returnType = none) (hlk : meth.locks = false) (hK : va_K G.1 vwCl (tyl G) s) (out : St) (kb : St → Int32 → Option (St)) (k119 : St → Option (St)) (Kb : ∀ (S : St) (x1 : Int32) (H : Heap) (locs : List Loc) (ls : Array Slot), Wd shM idsM G A S H → va_S A s.heap H locs → lv_has ls 3 [(0, .ref (G.2.2 0 0)), (1, .int x1)] → kb S x1 = some out → W p l e rm_X9_make s m args below meth c H locs 0 0 (MQ below (QV shM idsM G A out) args s 0 0 A) (F0 m 7 ls [])) (K119 : ∀ (S : St) (H : Heap) (locs : List Loc) (ls : Array Slot), Wd shM idsM G A S H → va_S A s.heap H locs → lv_has ls 3 [(0, .ref (G.2.2 0 0))] → k119 S = some out → W p l e rm_X9_make s m args below meth c H locs 0 0 (MQ below (QV shM idsM G A out) args s 0 0 A) (F0 m 119 ls [])) : ∀ (S : St) (x1 : Int32) (y1 : Int32) (y2 : Int32) (H : Heap) (locs : List Loc) (ls : Array Slot), Wd shM idsM G A S H → va_S A s.heap H locs → lv_has ls 3 [(0, .ref (G.2.2 0 0)), (1, .int x1)] → j_X9_make_112 kb k119 S x1 y1 y2 = some out → W p l e rm_X9_make s m args below meth c H locs 0 0 (MQ below (QV shM idsM G A out) args s 0 0 A) (F0 m 112 ls [.int y2, .int y1, .ref (G.2.2 11 0)]) := by
  intro S x1 y1 y2 H locs ls hW hS hl h
  unfold j_X9_make_112 at h
  obtain ⟨b_29, h⟩ := gd_some h
  refine rw_iast ndM (q0 := 11) F hK hW hS idM_11 (fun _ => rfl) (ix_in b_29) dX9_make_112 (fun H locs S_30 eS_30 hW hS => ?_)
  have h := lt_n eS_30 h
  obtain ⟨v_31, ev_31⟩ : ∃ y : Int32, y = x1 + 1 := ⟨_, rfl⟩
  have h := lt_n ev_31 h
  refine lv_iinc (v := v_31) (lv' := [(1, .int v_31), (0, .ref (G.2.2 0 0))]) F.1 F.2.1 dX9_make_113 hl (k := 1) rfl (by rw [ev_31]; rfl) (by decide) rfl (fun ls hl => ?_)
  refine lv_goto (tgt := 7) F.1 F.2.1 dX9_make_116 (by decide) ?_
  exact Kb _ _ _ _ _  hW hS (lv_sub hl [1, 0] rfl) h
set_option maxHeartbeats 4000000 in
set_option maxRecDepth 100000 in
theorem w_X9_make_109 {p : Program} {l : Launch} {e : Env} {s : State} {m : MethodId} {args : Array Value} {below : List Frame} {meth : Method} {c : Code} {G : GT} {A : Nat → Prop} (F : CallFix p m c cX9_make 3 s args wsX9_make RX9) (hr : meth.sig.returnType = none) (hlk : meth.locks = false) (hK : va_K G.1 vwCl (tyl G) s) (out : St) (kb : St → Int32 → Option (St)) (k119 : St → Option (St)) (Kb : ∀ (S : St) (x1 : Int32) (H : Heap) (locs : List Loc) (ls : Array Slot), Wd shM idsM G A S H → va_S A s.heap H locs → lv_has ls 3 [(0, .ref (G.2.2 0 0)), (1, .int x1)] → kb S x1 = some out → W p l e rm_X9_make s m args below meth c H locs 0 0 (MQ below (QV shM idsM G A out) args s 0 0 A) (F0 m 7 ls [])) (K119 : ∀ (S : St) (H : Heap) (locs : List Loc) (ls : Array Slot), Wd shM idsM G A S H → va_S A s.heap H locs → lv_has ls 3 [(0, .ref (G.2.2 0 0))] → k119 S = some out → W p l e rm_X9_make s m args below meth c H locs 0 0 (MQ below (QV shM idsM G A out) args s 0 0 A) (F0 m 119 ls [])) : ∀ (S : St) (x1 : Int32) (y1 : Int32) (y3 : Int32) (y4 : Int32) (y5 : Int32) (y6 : Int32) (H : Heap) (locs : List Loc) (ls : Array Slot), Wd shM idsM G A S H → va_S A s.heap H locs → lv_has ls 3 [(0, .ref (G.2.2 0 0)), (1, .int x1)] → j_X9_make_109 kb k119 S x1 y1 y3 y4 y5 y6 = some out → W p l e rm_X9_make s m args below meth c H locs 0 0 (MQ below (QV shM idsM G A out) args s 0 0 A) (F0 m 109 ls [.int y6, .int y5, .int y4, .int y3, .ref (G.2.2 0 0), .int y1, .ref (G.2.2 11 0)]) := by
  intro S x1 y1 y3 y4 y5 y6 H locs ls hW hS hl h
  unfold j_X9_make_109 at h
  obtain ⟨r_27, S_28, hq_26, h⟩ := bi_some h
  refine rw_vi F hK hW hS [.int y3, .int y4, .int y5, .int y6] (rest := [.int y1, .ref (G.2.2 11 0)]) (c_X9_gateOf l G A y3 y4 y5 y6 S (r_27, S_28) hq_26) (cwV 4 F.2.2.2.2 gX9_make_X9_gateOf rfl rfl rfl (by decide +kernel) ⟨Nat.le_of_ble_eq_true rfl, Nat.le_of_ble_eq_true rfl⟩) (rw_recv (q0 := 0) hK hW idM_0 rfl rfl) rfl hl.1 rfl (Nat.le_of_ble_eq_true rfl) dX9_make_109 (fun H locs hW hS => ?_)
  exact w_X9_make_112 F hr hlk hK out kb k119 Kb K119 _ _ _ _ _ _ _  hW hS hl h
set_option maxHeartbeats 4000000 in
set_option maxRecDepth 100000 in
theorem w_X9_make_83 {p : Program} {l : Launch} {e : Env} {s : State} {m : MethodId} {args : Array Value} {below : List Frame} {meth : Method} {c : Code} {G : GT} {A : Nat → Prop} (F : CallFix p m c cX9_make 3 s args wsX9_make RX9) (hr : meth.sig.returnType = none) (hlk : meth.locks = false) (hK : va_K G.1 vwCl (tyl G) s) (out : St) (kb : St → Int32 → Option (St)) (k119 : St → Option (St)) (Kb : ∀ (S : St) (x1 : Int32) (H : Heap) (locs : List Loc) (ls : Array Slot), Wd shM idsM G A S H → va_S A s.heap H locs → lv_has ls 3 [(0, .ref (G.2.2 0 0)), (1, .int x1)] → kb S x1 = some out → W p l e rm_X9_make s m args below meth c H locs 0 0 (MQ below (QV shM idsM G A out) args s 0 0 A) (F0 m 7 ls [])) (K119 : ∀ (S : St) (H : Heap) (locs : List Loc) (ls : Array Slot), Wd shM idsM G A S H → va_S A s.heap H locs → lv_has ls 3 [(0, .ref (G.2.2 0 0))] → k119 S = some out → W p l e rm_X9_make s m args below meth c H locs 0 0 (MQ below (QV shM idsM G A out) args s 0 0 A) (F0 m 119 ls [])) : ∀ (S : St) (x1 : Int32) (y1 : Int32) (y3 : Int32) (y4 : Int32) (y5 : Int32) (H : Heap) (locs : List Loc) (ls : Array Slot), Wd shM idsM G A S H → va_S A s.heap H locs → lv_has ls 3 [(0, .ref (G.2.2 0 0)), (1, .int x1)] → j_X9_make_83 kb k119 S x1 y1 y3 y4 y5 = some out → W p l e rm_X9_make s m args below meth c H locs 0 0 (MQ below (QV shM idsM G A out) args s 0 0 A) (F0 m 83 ls [.int y5, .int y4, .int y3, .ref (G.2.2 0 0), .int y1, .ref (G.2.2 11 0)]) := by
  intro S x1 y1 y3 y4 y5 H locs ls hW hS hl h
  unfold j_X9_make_83 at h
  refine lv_aload_n F.1 F.2.1 dX9_make_83 rfl (lv_at hl 0 rfl) ?_
  refine rw_get (q0 := 0) F hK hW idM_0 rfl rfl in_X9_make_X9 1 (by decide) lk_X9_make_7 rfl dX9_make_84 ?_
  refine lv_iload_n F.1 F.2.1 dX9_make_87 rfl (lv_at hl 1 rfl) ?_
  obtain ⟨b_19, h⟩ := gd_some h
  refine rw_iald (q0 := 1) F hK hW idM_1 (fun _ => rfl) (ix_in b_19) dX9_make_88 ?_
  refine lv_topi (fun v_20 ev_20 => ?_)
  have h := lt_n ev_20 h
  refine lv_bipush (v := 6) F.1 F.2.1 dX9_make_89 (by decide) ?_
  refine lv_icmp_ge (tgt := 98) F.1 F.2.1 dX9_make_91 (by decide) (fun c_21 => ?_) (fun c_21 => ?_)
  · have h := (if_pos c_21).symm.trans h
    refine lv_aload_n F.1 F.2.1 dX9_make_98 rfl (lv_at hl 0 rfl) ?_
    refine rw_get (q0 := 0) F hK hW idM_0 rfl rfl in_X9_make_X9 15 (by decide) lk_X9_make_40 rfl dX9_make_99 ?_
    refine lv_aload_n F.1 F.2.1 dX9_make_102 rfl (lv_at hl 0 rfl) ?_
    refine rw_get (q0 := 0) F hK hW idM_0 rfl rfl in_X9_make_X9 4 (by decide) lk_X9_make_19 rfl dX9_make_103 ?_
    refine lv_iload_n F.1 F.2.1 dX9_make_106 rfl (lv_at hl 1 rfl) ?_
    obtain ⟨b_22, h⟩ := gd_some h
    refine rw_iald (q0 := 4) F hK hW idM_4 (fun _ => rfl) (ix_in b_22) dX9_make_107 ?_
    refine lv_topi (fun v_23 ev_23 => ?_)
    have h := lt_n ev_23 h
    obtain ⟨b_24, h⟩ := gd_some h
    refine rw_iald (q0 := 11) F hK hW idM_11 (fun _ => rfl) (ix_in b_24) dX9_make_108 ?_
    refine lv_topi (fun v_25 ev_25 => ?_)
    have h := lt_n ev_25 h
    exact w_X9_make_109 F hr hlk hK out kb k119 Kb K119 _ _ _ _ _ _ _ _ _ _  hW hS hl h
  · have h := (if_neg c_21).symm.trans h
    refine lv_iconst (v := 0) F.1 F.2.1 dX9_make_94 (by decide) ?_
    refine lv_goto (tgt := 109) F.1 F.2.1 dX9_make_95 (by decide) ?_
    exact w_X9_make_109 F hr hlk hK out kb k119 Kb K119 _ _ _ _ _ _ _ _ _ _  hW hS hl h
set_option maxHeartbeats 4000000 in
set_option maxRecDepth 100000 in
theorem w_X9_make_7 {p : Program} {l : Launch} {e : Env} {s : State} {m : MethodId} {args : Array Value} {below : List Frame} {meth : Method} {c : Code} {G : GT} {A : Nat → Prop} (F : CallFix p m c cX9_make 3 s args wsX9_make RX9) (hr : meth.sig.returnType = none) (hlk : meth.locks = false) (hK : va_K G.1 vwCl (tyl G) s) (out : St) (k119 : St → Option (St)) (K119 : ∀ (S : St) (H : Heap) (locs : List Loc) (ls : Array Slot), Wd shM idsM G A S H → va_S A s.heap H locs → lv_has ls 3 [(0, .ref (G.2.2 0 0))] → k119 S = some out → W p l e rm_X9_make s m args below meth c H locs 0 0 (MQ below (QV shM idsM G A out) args s 0 0 A) (F0 m 119 ls [])) : ∀ n : Nat, ∀ (S : St) (x1 : Int32) (H : Heap) (locs : List Loc) (ls : Array Slot), Wd shM idsM G A S H → va_S A s.heap H locs → lv_has ls 3 [(0, .ref (G.2.2 0 0)), (1, .int x1)] → l_X9_make_7 k119 n S x1 = some out → W p l e rm_X9_make s m args below meth c H locs 0 0 (MQ below (QV shM idsM G A out) args s 0 0 A) (F0 m 7 ls []) := by
  intro n
  induction n with
  | zero =>
    intro S x1 H locs ls hW hS hl h
    cases h
  | succ n Kb =>
    generalize hkb : l_X9_make_7 k119 n = kb at Kb
    intro S x1 H locs ls hW hS hl h
    rw [show l_X9_make_7 k119 (n + 1) = b_X9_make_7 (l_X9_make_7 k119 n) k119 from rfl, hkb] at h
    unfold b_X9_make_7 at h
    refine lv_iload_n F.1 F.2.1 dX9_make_7 rfl (lv_at hl 1 rfl) ?_
    refine lv_aload_n F.1 F.2.1 dX9_make_8 rfl (lv_at hl 0 rfl) ?_
    refine rw_get (q0 := 0) F hK hW idM_0 rfl rfl in_X9_make_X9 0 (by decide) lk_X9_make_136 rfl dX9_make_9 ?_
    refine lv_icmp_ge (tgt := 119) F.1 F.2.1 dX9_make_12 (by decide) (fun c_2 => ?_) (fun c_2 => ?_)
    · have h := (if_pos c_2).symm.trans h
      exact K119 _ _ _ _  hW hS (lv_sub hl [0] rfl) h
    · have h := (if_neg c_2).symm.trans h
      refine lv_aload_n F.1 F.2.1 dX9_make_15 rfl (lv_at hl 0 rfl) ?_
      refine rw_get (q0 := 0) F hK hW idM_0 rfl rfl in_X9_make_X9 15 (by decide) lk_X9_make_40 rfl dX9_make_16 ?_
      refine lv_iload_n F.1 F.2.1 dX9_make_19 rfl (lv_at hl 1 rfl) ?_
      refine lv_aload_n F.1 F.2.1 dX9_make_20 rfl (lv_at hl 0 rfl) ?_
      refine rw_get (q0 := 0) F hK hW idM_0 rfl rfl in_X9_make_X9 1 (by decide) lk_X9_make_7 rfl dX9_make_21 ?_
      refine lv_iload_n F.1 F.2.1 dX9_make_24 rfl (lv_at hl 1 rfl) ?_
      obtain ⟨b_3, h⟩ := gd_some h
      refine rw_iald (q0 := 1) F hK hW idM_1 (fun _ => rfl) (ix_in b_3) dX9_make_25 ?_
      refine lv_topi (fun v_4 ev_4 => ?_)
      have h := lt_n ev_4 h
      refine lv_if_ge (tgt := 41) F.1 F.2.1 dX9_make_26 (by decide) (fun c_5 => ?_) (fun c_5 => ?_)
      · have h := (if_pos c_5).symm.trans h
        refine lv_aload_n F.1 F.2.1 dX9_make_41 rfl (lv_at hl 0 rfl) ?_
        refine lv_aload_n F.1 F.2.1 dX9_make_42 rfl (lv_at hl 0 rfl) ?_
        refine rw_get (q0 := 0) F hK hW idM_0 rfl rfl in_X9_make_X9 1 (by decide) lk_X9_make_7 rfl dX9_make_43 ?_
        refine lv_iload_n F.1 F.2.1 dX9_make_46 rfl (lv_at hl 1 rfl) ?_
        obtain ⟨b_6, h⟩ := gd_some h
        refine rw_iald (q0 := 1) F hK hW idM_1 (fun _ => rfl) (ix_in b_6) dX9_make_47 ?_
        refine lv_topi (fun v_7 ev_7 => ?_)
        have h := lt_n ev_7 h
        refine lv_aload_n F.1 F.2.1 dX9_make_48 rfl (lv_at hl 0 rfl) ?_
        refine rw_get (q0 := 0) F hK hW idM_0 rfl rfl in_X9_make_X9 15 (by decide) lk_X9_make_40 rfl dX9_make_49 ?_
        refine lv_aload_n F.1 F.2.1 dX9_make_52 rfl (lv_at hl 0 rfl) ?_
        refine rw_get (q0 := 0) F hK hW idM_0 rfl rfl in_X9_make_X9 2 (by decide) lk_X9_make_13 rfl dX9_make_53 ?_
        refine lv_iload_n F.1 F.2.1 dX9_make_56 rfl (lv_at hl 1 rfl) ?_
        obtain ⟨b_8, h⟩ := gd_some h
        refine rw_iald (q0 := 2) F hK hW idM_2 (fun _ => rfl) (ix_in b_8) dX9_make_57 ?_
        refine lv_topi (fun v_9 ev_9 => ?_)
        have h := lt_n ev_9 h
        obtain ⟨b_10, h⟩ := gd_some h
        refine rw_iald (q0 := 11) F hK hW idM_11 (fun _ => rfl) (ix_in b_10) dX9_make_58 ?_
        refine lv_topi (fun v_11 ev_11 => ?_)
        have h := lt_n ev_11 h
        refine lv_aload_n F.1 F.2.1 dX9_make_59 rfl (lv_at hl 0 rfl) ?_
        refine rw_get (q0 := 0) F hK hW idM_0 rfl rfl in_X9_make_X9 1 (by decide) lk_X9_make_7 rfl dX9_make_60 ?_
        refine lv_iload_n F.1 F.2.1 dX9_make_63 rfl (lv_at hl 1 rfl) ?_
        obtain ⟨b_12, h⟩ := gd_some h
        refine rw_iald (q0 := 1) F hK hW idM_1 (fun _ => rfl) (ix_in b_12) dX9_make_64 ?_
        refine lv_topi (fun v_13 ev_13 => ?_)
        have h := lt_n ev_13 h
        refine lv_if_ne (tgt := 72) F.1 F.2.1 dX9_make_65 (by decide) (fun c_14 => ?_) (fun c_14 => ?_)
        · have h := (if_neg c_14).symm.trans h
          refine lv_aload_n F.1 F.2.1 dX9_make_72 rfl (lv_at hl 0 rfl) ?_
          refine rw_get (q0 := 0) F hK hW idM_0 rfl rfl in_X9_make_X9 15 (by decide) lk_X9_make_40 rfl dX9_make_73 ?_
          refine lv_aload_n F.1 F.2.1 dX9_make_76 rfl (lv_at hl 0 rfl) ?_
          refine rw_get (q0 := 0) F hK hW idM_0 rfl rfl in_X9_make_X9 3 (by decide) lk_X9_make_16 rfl dX9_make_77 ?_
          refine lv_iload_n F.1 F.2.1 dX9_make_80 rfl (lv_at hl 1 rfl) ?_
          obtain ⟨b_15, h⟩ := gd_some h
          refine rw_iald (q0 := 3) F hK hW idM_3 (fun _ => rfl) (ix_in b_15) dX9_make_81 ?_
          refine lv_topi (fun v_16 ev_16 => ?_)
          have h := lt_n ev_16 h
          obtain ⟨b_17, h⟩ := gd_some h
          refine rw_iald (q0 := 11) F hK hW idM_11 (fun _ => rfl) (ix_in b_17) dX9_make_82 ?_
          refine lv_topi (fun v_18 ev_18 => ?_)
          have h := lt_n ev_18 h
          exact w_X9_make_83 F hr hlk hK out kb k119 Kb K119 _ _ _ _ _ _ _ _ _  hW hS hl h
        · have h := (if_pos c_14).symm.trans h
          refine lv_iconst (v := 0) F.1 F.2.1 dX9_make_68 (by decide) ?_
          refine lv_goto (tgt := 83) F.1 F.2.1 dX9_make_69 (by decide) ?_
          exact w_X9_make_83 F hr hlk hK out kb k119 Kb K119 _ _ _ _ _ _ _ _ _  hW hS hl h
      · have h := (if_neg c_5).symm.trans h
        refine lv_aload_n F.1 F.2.1 dX9_make_29 rfl (lv_at hl 0 rfl) ?_
        refine lv_iconst (v := 0) F.1 F.2.1 dX9_make_30 (by decide) ?_
        refine lv_bipush (v := -4) F.1 F.2.1 dX9_make_31 (by decide) ?_
        refine lv_bipush (v := -4) F.1 F.2.1 dX9_make_33 (by decide) ?_
        obtain ⟨r_33, S_34, hq_32, h⟩ := bi_some h
        refine rw_vi F hK hW hS [.int 0, .int ((-4)), .int ((-4))] (rest := [.int x1, .ref (G.2.2 11 0)]) (c_X9_vertexAt l G A 0 ((-4)) ((-4)) S (r_33, S_34) hq_32) (cwV 3 F.2.2.2.2 gX9_make_X9_vertexAt rfl rfl rfl (by decide +kernel) ⟨Nat.le_of_ble_eq_true rfl, Nat.le_of_ble_eq_true rfl⟩) (rw_recv (q0 := 0) hK hW idM_0 rfl rfl) rfl hl.1 rfl (Nat.le_of_ble_eq_true rfl) dX9_make_35 (fun H locs hW hS => ?_)
        refine lv_goto (tgt := 112) F.1 F.2.1 dX9_make_38 (by decide) ?_
        exact w_X9_make_112 F hr hlk hK out kb k119 Kb K119 _ _ _ _ _ _ _  hW hS hl h
set_option maxHeartbeats 4000000 in
set_option maxRecDepth 100000 in
theorem w_X9_make_121 {p : Program} {l : Launch} {e : Env} {s : State} {m : MethodId} {args : Array Value} {below : List Frame} {meth : Method} {c : Code} {G : GT} {A : Nat → Prop} (F : CallFix p m c cX9_make 3 s args wsX9_make RX9) (hr : meth.sig.returnType = none) (hlk : meth.locks = false) (hK : va_K G.1 vwCl (tyl G) s) (out : St) (k156 : St → Option (St)) (K156 : ∀ (S : St) (H : Heap) (locs : List Loc) (ls : Array Slot), Wd shM idsM G A S H → va_S A s.heap H locs → lv_has ls 3 [(0, .ref (G.2.2 0 0))] → k156 S = some out → W p l e rm_X9_make s m args below meth c H locs 0 0 (MQ below (QV shM idsM G A out) args s 0 0 A) (F0 m 156 ls [])) : ∀ n : Nat, ∀ (S : St) (x1 : Int32) (H : Heap) (locs : List Loc) (ls : Array Slot), Wd shM idsM G A S H → va_S A s.heap H locs → lv_has ls 3 [(0, .ref (G.2.2 0 0)), (1, .int x1)] → l_X9_make_121 k156 n S x1 = some out → W p l e rm_X9_make s m args below meth c H locs 0 0 (MQ below (QV shM idsM G A out) args s 0 0 A) (F0 m 121 ls []) := by
  intro n
  induction n with
  | zero =>
    intro S x1 H locs ls hW hS hl h
    cases h
  | succ n Kb =>
    generalize hkb : l_X9_make_121 k156 n = kb at Kb
    intro S x1 H locs ls hW hS hl h
    rw [show l_X9_make_121 k156 (n + 1) = b_X9_make_121 (l_X9_make_121 k156 n) k156 from rfl, hkb] at h
    unfold b_X9_make_121 at h
    refine lv_iload_n F.1 F.2.1 dX9_make_121 rfl (lv_at hl 1 rfl) ?_
    refine lv_aload_n F.1 F.2.1 dX9_make_122 rfl (lv_at hl 0 rfl) ?_
    refine rw_get (q0 := 0) F hK hW idM_0 rfl rfl in_X9_make_X9 11 (by decide) lk_X9_make_163 rfl dX9_make_123 ?_
    refine lv_icmp_ge (tgt := 156) F.1 F.2.1 dX9_make_126 (by decide) (fun c_35 => ?_) (fun c_35 => ?_)
    · have h := (if_pos c_35).symm.trans h
      exact K156 _ _ _ _  hW hS (lv_sub hl [0] rfl) h
    · have h := (if_neg c_35).symm.trans h
      refine lv_aload_n F.1 F.2.1 dX9_make_129 rfl (lv_at hl 0 rfl) ?_
      refine rw_get (q0 := 0) F hK hW idM_0 rfl rfl in_X9_make_X9 16 (by decide) lk_X9_make_43 rfl dX9_make_130 ?_
      refine lv_iload_n F.1 F.2.1 dX9_make_133 rfl (lv_at hl 1 rfl) ?_
      refine lv_iconst (v := 0) F.1 F.2.1 dX9_make_134 (by decide) ?_
      obtain ⟨b_36, h⟩ := gd_some h
      refine rw_iast ndM (q0 := 12) F hK hW hS idM_12 (fun _ => rfl) (ix_in b_36) dX9_make_135 (fun H locs S_37 eS_37 hW hS => ?_)
      have h := lt_n eS_37 h
      refine lv_aload_n F.1 F.2.1 dX9_make_136 rfl (lv_at hl 0 rfl) ?_
      refine rw_get (q0 := 0) F hK hW idM_0 rfl rfl in_X9_make_X9 17 (by decide) lk_X9_make_46 rfl dX9_make_137 ?_
      refine lv_iload_n F.1 F.2.1 dX9_make_140 rfl (lv_at hl 1 rfl) ?_
      refine lv_iconst (v := 0) F.1 F.2.1 dX9_make_141 (by decide) ?_
      obtain ⟨b_38, h⟩ := gd_some h
      refine rw_zast ndM (q0 := 13) F hK hW hS idM_13 (fun _ => rfl) (ix_in b_38) dX9_make_142 (fun H locs S_39 eS_39 hW hS => ?_)
      have h := lt_n eS_39 h
      refine lv_aload_n F.1 F.2.1 dX9_make_143 rfl (lv_at hl 0 rfl) ?_
      refine rw_get (q0 := 0) F hK hW idM_0 rfl rfl in_X9_make_X9 18 (by decide) lk_X9_make_50 rfl dX9_make_144 ?_
      refine lv_iload_n F.1 F.2.1 dX9_make_147 rfl (lv_at hl 1 rfl) ?_
      refine lv_iconst (v := 0) F.1 F.2.1 dX9_make_148 (by decide) ?_
      obtain ⟨b_40, h⟩ := gd_some h
      refine rw_zast ndM (q0 := 14) F hK hW hS idM_14 (fun _ => rfl) (ix_in b_40) dX9_make_149 (fun H locs S_41 eS_41 hW hS => ?_)
      have h := lt_n eS_41 h
      obtain ⟨v_42, ev_42⟩ : ∃ y : Int32, y = x1 + 1 := ⟨_, rfl⟩
      have h := lt_n ev_42 h
      refine lv_iinc (v := v_42) (lv' := [(1, .int v_42), (0, .ref (G.2.2 0 0))]) F.1 F.2.1 dX9_make_150 hl (k := 1) rfl (by rw [ev_42]; rfl) (by decide) rfl (fun ls hl => ?_)
      refine lv_goto (tgt := 121) F.1 F.2.1 dX9_make_153 (by decide) ?_
      exact Kb _ _ _ _ _  hW hS (lv_sub hl [1, 0] rfl) h
set_option maxHeartbeats 4000000 in
set_option maxRecDepth 100000 in
theorem w_X9_make_158 {p : Program} {l : Launch} {e : Env} {s : State} {m : MethodId} {args : Array Value} {below : List Frame} {meth : Method} {c : Code} {G : GT} {A : Nat → Prop} (F : CallFix p m c cX9_make 3 s args wsX9_make RX9) (hr : meth.sig.returnType = none) (hlk : meth.locks = false) (hK : va_K G.1 vwCl (tyl G) s) (out : St) (k208 : St → Option (St)) (K208 : ∀ (S : St) (H : Heap) (locs : List Loc) (ls : Array Slot), Wd shM idsM G A S H → va_S A s.heap H locs → lv_has ls 3 [(0, .ref (G.2.2 0 0))] → k208 S = some out → W p l e rm_X9_make s m args below meth c H locs 0 0 (MQ below (QV shM idsM G A out) args s 0 0 A) (F0 m 208 ls [])) : ∀ n : Nat, ∀ (S : St) (x1 : Int32) (H : Heap) (locs : List Loc) (ls : Array Slot), Wd shM idsM G A S H → va_S A s.heap H locs → lv_has ls 3 [(0, .ref (G.2.2 0 0)), (1, .int x1)] → l_X9_make_158 k208 n S x1 = some out → W p l e rm_X9_make s m args below meth c H locs 0 0 (MQ below (QV shM idsM G A out) args s 0 0 A) (F0 m 158 ls []) := by
  intro n
  induction n with
  | zero =>
    intro S x1 H locs ls hW hS hl h
    cases h
  | succ n Kb =>
    generalize hkb : l_X9_make_158 k208 n = kb at Kb
    intro S x1 H locs ls hW hS hl h
    rw [show l_X9_make_158 k208 (n + 1) = b_X9_make_158 (l_X9_make_158 k208 n) k208 from rfl, hkb] at h
    unfold b_X9_make_158 at h
    refine lv_iload_n F.1 F.2.1 dX9_make_158 rfl (lv_at hl 1 rfl) ?_
    refine lv_aload_n F.1 F.2.1 dX9_make_159 rfl (lv_at hl 0 rfl) ?_
    refine rw_get (q0 := 0) F hK hW idM_0 rfl rfl in_X9_make_X9 5 (by decide) lk_X9_make_160 rfl dX9_make_160 ?_
    refine lv_icmp_ge (tgt := 208) F.1 F.2.1 dX9_make_163 (by decide) (fun c_43 => ?_) (fun c_43 => ?_)
    · have h := (if_pos c_43).symm.trans h
      exact K208 _ _ _ _  hW hS (lv_sub hl [0] rfl) h
    · have h := (if_neg c_43).symm.trans h
      refine lv_aload_n F.1 F.2.1 dX9_make_166 rfl (lv_at hl 0 rfl) ?_
      refine rw_get (q0 := 0) F hK hW idM_0 rfl rfl in_X9_make_X9 15 (by decide) lk_X9_make_40 rfl dX9_make_167 ?_
      refine lv_aload_n F.1 F.2.1 dX9_make_170 rfl (lv_at hl 0 rfl) ?_
      refine rw_get (q0 := 0) F hK hW idM_0 rfl rfl in_X9_make_X9 6 (by decide) lk_X9_make_22 rfl dX9_make_171 ?_
      refine lv_iload_n F.1 F.2.1 dX9_make_174 rfl (lv_at hl 1 rfl) ?_
      obtain ⟨b_44, h⟩ := gd_some h
      refine rw_iald (q0 := 5) F hK hW idM_5 (fun _ => rfl) (ix_in b_44) dX9_make_175 ?_
      refine lv_topi (fun v_45 ev_45 => ?_)
      have h := lt_n ev_45 h
      obtain ⟨b_46, h⟩ := gd_some h
      refine rw_iald (q0 := 11) F hK hW idM_11 (fun _ => rfl) (ix_in b_46) dX9_make_176 ?_
      refine lv_topi (fun v_47 ev_47 => ?_)
      have h := lt_n ev_47 h
      refine lv_istore_n (lv' := [(2, .int v_47), (0, .ref (G.2.2 0 0)), (1, .int x1)]) F.1 F.2.1 dX9_make_177 rfl hl (by decide) rfl (fun ls hl => ?_)
      refine lv_aload_n F.1 F.2.1 dX9_make_178 rfl (lv_at hl 1 rfl) ?_
      refine rw_get (q0 := 0) F hK hW idM_0 rfl rfl in_X9_make_X9 16 (by decide) lk_X9_make_43 rfl dX9_make_179 ?_
      refine lv_iload_n F.1 F.2.1 dX9_make_182 rfl (lv_at hl 0 rfl) ?_
      refine lv_dup2_11 F.1 F.2.1 dX9_make_183 rfl rfl ?_
      obtain ⟨b_48, h⟩ := gd_some h
      refine rw_iald (q0 := 12) F hK hW idM_12 (fun _ => rfl) (ix_in b_48) dX9_make_184 ?_
      refine lv_topi (fun v_49 ev_49 => ?_)
      have h := lt_n ev_49 h
      refine lv_iconst (v := 1) F.1 F.2.1 dX9_make_185 (by decide) ?_
      refine lv_iadd F.1 F.2.1 dX9_make_186 ?_
      obtain ⟨b_50, h⟩ := gd_some h
      refine rw_iast ndM (q0 := 12) F hK hW hS idM_12 (fun _ => rfl) (ix_in b_50) dX9_make_187 (fun H locs S_51 eS_51 hW hS => ?_)
      have h := lt_n eS_51 h
      refine lv_aload_n F.1 F.2.1 dX9_make_188 rfl (lv_at hl 1 rfl) ?_
      refine rw_get (q0 := 0) F hK hW idM_0 rfl rfl in_X9_make_X9 17 (by decide) lk_X9_make_46 rfl dX9_make_189 ?_
      refine lv_iload_n F.1 F.2.1 dX9_make_192 rfl (lv_at hl 0 rfl) ?_
      refine lv_iconst (v := 1) F.1 F.2.1 dX9_make_193 (by decide) ?_
      obtain ⟨b_52, h⟩ := gd_some h
      refine rw_zast ndM (q0 := 13) F hK hW hS idM_13 (fun _ => rfl) (ix_in b_52) dX9_make_194 (fun H locs S_53 eS_53 hW hS => ?_)
      have h := lt_n eS_53 h
      refine lv_aload_n F.1 F.2.1 dX9_make_195 rfl (lv_at hl 1 rfl) ?_
      refine rw_get (q0 := 0) F hK hW idM_0 rfl rfl in_X9_make_X9 18 (by decide) lk_X9_make_50 rfl dX9_make_196 ?_
      refine lv_iload_n F.1 F.2.1 dX9_make_199 rfl (lv_at hl 0 rfl) ?_
      refine lv_iconst (v := 1) F.1 F.2.1 dX9_make_200 (by decide) ?_
      obtain ⟨b_54, h⟩ := gd_some h
      refine rw_zast ndM (q0 := 14) F hK hW hS idM_14 (fun _ => rfl) (ix_in b_54) dX9_make_201 (fun H locs S_55 eS_55 hW hS => ?_)
      have h := lt_n eS_55 h
      obtain ⟨v_56, ev_56⟩ : ∃ y : Int32, y = x1 + 1 := ⟨_, rfl⟩
      have h := lt_n ev_56 h
      refine lv_iinc (v := v_56) (lv' := [(1, .int v_56), (2, .int v_47), (0, .ref (G.2.2 0 0))]) F.1 F.2.1 dX9_make_202 hl (k := 2) rfl (by rw [ev_56]; rfl) (by decide) rfl (fun ls hl => ?_)
      refine lv_goto (tgt := 158) F.1 F.2.1 dX9_make_205 (by decide) ?_
      exact Kb _ _ _ _ _  hW hS (lv_sub hl [2, 0] rfl) h
set_option maxHeartbeats 4000000 in
set_option maxRecDepth 100000 in
theorem w_X9_make_301 {p : Program} {l : Launch} {e : Env} {s : State} {m : MethodId} {args : Array Value} {below : List Frame} {meth : Method} {c : Code} {G : GT} {A : Nat → Prop} (F : CallFix p m c cX9_make 3 s args wsX9_make RX9) (hr : meth.sig.returnType = none) (hlk : meth.locks = false) (hK : va_K G.1 vwCl (tyl G) s) (out : St) (kb : St → Int32 → Option (St)) (k307 : St → Option (St)) (Kb : ∀ (S : St) (x1 : Int32) (H : Heap) (locs : List Loc) (ls : Array Slot), Wd shM idsM G A S H → va_S A s.heap H locs → lv_has ls 3 [(0, .ref (G.2.2 0 0)), (1, .int x1)] → kb S x1 = some out → W p l e rm_X9_make s m args below meth c H locs 0 0 (MQ below (QV shM idsM G A out) args s 0 0 A) (F0 m 215 ls [])) (K307 : ∀ (S : St) (H : Heap) (locs : List Loc) (ls : Array Slot), Wd shM idsM G A S H → va_S A s.heap H locs → lv_has ls 3 [(0, .ref (G.2.2 0 0))] → k307 S = some out → W p l e rm_X9_make s m args below meth c H locs 0 0 (MQ below (QV shM idsM G A out) args s 0 0 A) (F0 m 307 ls [])) : ∀ (S : St) (x1 : Int32) (H : Heap) (locs : List Loc) (ls : Array Slot), Wd shM idsM G A S H → va_S A s.heap H locs → lv_has ls 3 [(0, .ref (G.2.2 0 0)), (1, .int x1)] → j_X9_make_301 kb k307 S x1 = some out → W p l e rm_X9_make s m args below meth c H locs 0 0 (MQ below (QV shM idsM G A out) args s 0 0 A) (F0 m 301 ls []) := by
  intro S x1 H locs ls hW hS hl h
  unfold j_X9_make_301 at h
  obtain ⟨v_62, ev_62⟩ : ∃ y : Int32, y = x1 + (-1) := ⟨_, rfl⟩
  have h := lt_n ev_62 h
  refine lv_iinc (v := v_62) (lv' := [(1, .int v_62), (0, .ref (G.2.2 0 0))]) F.1 F.2.1 dX9_make_301 hl (k := 1) rfl (by rw [ev_62]; rfl) (by decide) rfl (fun ls hl => ?_)
  refine lv_goto (tgt := 215) F.1 F.2.1 dX9_make_304 (by decide) ?_
  exact Kb _ _ _ _ _  hW hS (lv_sub hl [1, 0] rfl) h
set_option maxHeartbeats 4000000 in
set_option maxRecDepth 100000 in
theorem w_X9_make_215 {p : Program} {l : Launch} {e : Env} {s : State} {m : MethodId} {args : Array Value} {below : List Frame} {meth : Method} {c : Code} {G : GT} {A : Nat → Prop} (F : CallFix p m c cX9_make 3 s args wsX9_make RX9) (hr : meth.sig.returnType = none) (hlk : meth.locks = false) (hK : va_K G.1 vwCl (tyl G) s) (out : St) (k307 : St → Option (St)) (K307 : ∀ (S : St) (H : Heap) (locs : List Loc) (ls : Array Slot), Wd shM idsM G A S H → va_S A s.heap H locs → lv_has ls 3 [(0, .ref (G.2.2 0 0))] → k307 S = some out → W p l e rm_X9_make s m args below meth c H locs 0 0 (MQ below (QV shM idsM G A out) args s 0 0 A) (F0 m 307 ls [])) : ∀ n : Nat, ∀ (S : St) (x1 : Int32) (H : Heap) (locs : List Loc) (ls : Array Slot), Wd shM idsM G A S H → va_S A s.heap H locs → lv_has ls 3 [(0, .ref (G.2.2 0 0)), (1, .int x1)] → l_X9_make_215 k307 n S x1 = some out → W p l e rm_X9_make s m args below meth c H locs 0 0 (MQ below (QV shM idsM G A out) args s 0 0 A) (F0 m 215 ls []) := by
  intro n
  induction n with
  | zero =>
    intro S x1 H locs ls hW hS hl h
    cases h
  | succ n Kb =>
    generalize hkb : l_X9_make_215 k307 n = kb at Kb
    intro S x1 H locs ls hW hS hl h
    rw [show l_X9_make_215 k307 (n + 1) = b_X9_make_215 (l_X9_make_215 k307 n) k307 from rfl, hkb] at h
    unfold b_X9_make_215 at h
    refine lv_iload_n F.1 F.2.1 dX9_make_215 rfl (lv_at hl 1 rfl) ?_
    refine lv_if_lt (tgt := 307) F.1 F.2.1 dX9_make_216 (by decide) (fun c_58 => ?_) (fun c_58 => ?_)
    · have h := (if_pos c_58).symm.trans h
      exact K307 _ _ _ _  hW hS (lv_sub hl [0] rfl) h
    · have h := (if_neg c_58).symm.trans h
      refine lv_aload_n F.1 F.2.1 dX9_make_219 rfl (lv_at hl 0 rfl) ?_
      refine rw_get (q0 := 0) F hK hW idM_0 rfl rfl in_X9_make_X9 17 (by decide) lk_X9_make_46 rfl dX9_make_220 ?_
      refine lv_iload_n F.1 F.2.1 dX9_make_223 rfl (lv_at hl 1 rfl) ?_
      obtain ⟨b_59, h⟩ := gd_some h
      refine rw_zald (q0 := 13) F hK hW idM_13 (fun _ => rfl) (ix_in b_59) dX9_make_224 ?_
      refine lv_topi (fun v_60 ev_60 => ?_)
      have h := lt_n ev_60 h
      refine lv_if_eq (tgt := 301) F.1 F.2.1 dX9_make_225 (by decide) (fun c_61 => ?_) (fun c_61 => ?_)
      · have h := (if_pos c_61).symm.trans h
        exact w_X9_make_301 F hr hlk hK out kb k307 Kb K307 _ _ _ _ _  hW hS hl h
      · have h := (if_neg c_61).symm.trans h
        refine lv_aload_n F.1 F.2.1 dX9_make_228 rfl (lv_at hl 0 rfl) ?_
        refine rw_get (q0 := 0) F hK hW idM_0 rfl rfl in_X9_make_X9 12 (by decide) lk_X9_make_31 rfl dX9_make_229 ?_
        refine lv_iload_n F.1 F.2.1 dX9_make_232 rfl (lv_at hl 1 rfl) ?_
        obtain ⟨b_63, h⟩ := gd_some h
        refine rw_iald (q0 := 8) F hK hW idM_8 (fun _ => rfl) (ix_in b_63) dX9_make_233 ?_
        refine lv_topi (fun v_64 ev_64 => ?_)
        have h := lt_n ev_64 h
        refine lv_if_eq (tgt := 301) F.1 F.2.1 dX9_make_234 (by decide) (fun c_65 => ?_) (fun c_65 => ?_)
        · have h := (if_pos c_65).symm.trans h
          exact w_X9_make_301 F hr hlk hK out kb k307 Kb K307 _ _ _ _ _  hW hS hl h
        · have h := (if_neg c_65).symm.trans h
          refine lv_aload_n F.1 F.2.1 dX9_make_237 rfl (lv_at hl 0 rfl) ?_
          refine rw_get (q0 := 0) F hK hW idM_0 rfl rfl in_X9_make_X9 16 (by decide) lk_X9_make_43 rfl dX9_make_238 ?_
          refine lv_aload_n F.1 F.2.1 dX9_make_241 rfl (lv_at hl 0 rfl) ?_
          refine rw_get (q0 := 0) F hK hW idM_0 rfl rfl in_X9_make_X9 13 (by decide) lk_X9_make_34 rfl dX9_make_242 ?_
          refine lv_iload_n F.1 F.2.1 dX9_make_245 rfl (lv_at hl 1 rfl) ?_
          obtain ⟨b_66, h⟩ := gd_some h
          refine rw_iald (q0 := 9) F hK hW idM_9 (fun _ => rfl) (ix_in b_66) dX9_make_246 ?_
          refine lv_topi (fun v_67 ev_67 => ?_)
          have h := lt_n ev_67 h
          refine lv_dup2_11 F.1 F.2.1 dX9_make_247 rfl rfl ?_
          obtain ⟨b_68, h⟩ := gd_some h
          refine rw_iald (q0 := 12) F hK hW idM_12 (fun _ => rfl) (ix_in b_68) dX9_make_248 ?_
          refine lv_topi (fun v_69 ev_69 => ?_)
          have h := lt_n ev_69 h
          refine lv_iconst (v := 1) F.1 F.2.1 dX9_make_249 (by decide) ?_
          refine lv_iadd F.1 F.2.1 dX9_make_250 ?_
          obtain ⟨b_70, h⟩ := gd_some h
          refine rw_iast ndM (q0 := 12) F hK hW hS idM_12 (fun _ => rfl) (ix_in b_70) dX9_make_251 (fun H locs S_71 eS_71 hW hS => ?_)
          have h := lt_n eS_71 h
          refine lv_aload_n F.1 F.2.1 dX9_make_252 rfl (lv_at hl 0 rfl) ?_
          refine rw_get (q0 := 0) F hK hW idM_0 rfl rfl in_X9_make_X9 17 (by decide) lk_X9_make_46 rfl dX9_make_253 ?_
          refine lv_aload_n F.1 F.2.1 dX9_make_256 rfl (lv_at hl 0 rfl) ?_
          refine rw_get (q0 := 0) F hK hW idM_0 rfl rfl in_X9_make_X9 13 (by decide) lk_X9_make_34 rfl dX9_make_257 ?_
          refine lv_iload_n F.1 F.2.1 dX9_make_260 rfl (lv_at hl 1 rfl) ?_
          obtain ⟨b_72, h⟩ := gd_some h
          refine rw_iald (q0 := 9) F hK hW idM_9 (fun _ => rfl) (ix_in b_72) dX9_make_261 ?_
          refine lv_topi (fun v_73 ev_73 => ?_)
          have h := lt_n ev_73 h
          refine lv_iconst (v := 1) F.1 F.2.1 dX9_make_262 (by decide) ?_
          obtain ⟨b_74, h⟩ := gd_some h
          refine rw_zast ndM (q0 := 13) F hK hW hS idM_13 (fun _ => rfl) (ix_in b_74) dX9_make_263 (fun H locs S_75 eS_75 hW hS => ?_)
          have h := lt_n eS_75 h
          refine lv_aload_n F.1 F.2.1 dX9_make_264 rfl (lv_at hl 0 rfl) ?_
          refine rw_get (q0 := 0) F hK hW idM_0 rfl rfl in_X9_make_X9 12 (by decide) lk_X9_make_31 rfl dX9_make_265 ?_
          refine lv_iload_n F.1 F.2.1 dX9_make_268 rfl (lv_at hl 1 rfl) ?_
          obtain ⟨b_76, h⟩ := gd_some h
          refine rw_iald (q0 := 8) F hK hW idM_8 (fun _ => rfl) (ix_in b_76) dX9_make_269 ?_
          refine lv_topi (fun v_77 ev_77 => ?_)
          have h := lt_n ev_77 h
          refine lv_iconst (v := 2) F.1 F.2.1 dX9_make_270 (by decide) ?_
          refine lv_icmp_ne (tgt := 301) F.1 F.2.1 dX9_make_271 (by decide) (fun c_78 => ?_) (fun c_78 => ?_)
          · have h := (if_neg c_78).symm.trans h
            exact w_X9_make_301 F hr hlk hK out kb k307 Kb K307 _ _ _ _ _  hW hS hl h
          · have h := (if_pos c_78).symm.trans h
            refine lv_aload_n F.1 F.2.1 dX9_make_274 rfl (lv_at hl 0 rfl) ?_
            refine rw_get (q0 := 0) F hK hW idM_0 rfl rfl in_X9_make_X9 16 (by decide) lk_X9_make_43 rfl dX9_make_275 ?_
            refine lv_aload_n F.1 F.2.1 dX9_make_278 rfl (lv_at hl 0 rfl) ?_
            refine rw_get (q0 := 0) F hK hW idM_0 rfl rfl in_X9_make_X9 14 (by decide) lk_X9_make_37 rfl dX9_make_279 ?_
            refine lv_iload_n F.1 F.2.1 dX9_make_282 rfl (lv_at hl 1 rfl) ?_
            obtain ⟨b_79, h⟩ := gd_some h
            refine rw_iald (q0 := 10) F hK hW idM_10 (fun _ => rfl) (ix_in b_79) dX9_make_283 ?_
            refine lv_topi (fun v_80 ev_80 => ?_)
            have h := lt_n ev_80 h
            refine lv_dup2_11 F.1 F.2.1 dX9_make_284 rfl rfl ?_
            obtain ⟨b_81, h⟩ := gd_some h
            refine rw_iald (q0 := 12) F hK hW idM_12 (fun _ => rfl) (ix_in b_81) dX9_make_285 ?_
            refine lv_topi (fun v_82 ev_82 => ?_)
            have h := lt_n ev_82 h
            refine lv_iconst (v := 1) F.1 F.2.1 dX9_make_286 (by decide) ?_
            refine lv_iadd F.1 F.2.1 dX9_make_287 ?_
            obtain ⟨b_83, h⟩ := gd_some h
            refine rw_iast ndM (q0 := 12) F hK hW hS idM_12 (fun _ => rfl) (ix_in b_83) dX9_make_288 (fun H locs S_84 eS_84 hW hS => ?_)
            have h := lt_n eS_84 h
            refine lv_aload_n F.1 F.2.1 dX9_make_289 rfl (lv_at hl 0 rfl) ?_
            refine rw_get (q0 := 0) F hK hW idM_0 rfl rfl in_X9_make_X9 17 (by decide) lk_X9_make_46 rfl dX9_make_290 ?_
            refine lv_aload_n F.1 F.2.1 dX9_make_293 rfl (lv_at hl 0 rfl) ?_
            refine rw_get (q0 := 0) F hK hW idM_0 rfl rfl in_X9_make_X9 14 (by decide) lk_X9_make_37 rfl dX9_make_294 ?_
            refine lv_iload_n F.1 F.2.1 dX9_make_297 rfl (lv_at hl 1 rfl) ?_
            obtain ⟨b_85, h⟩ := gd_some h
            refine rw_iald (q0 := 10) F hK hW idM_10 (fun _ => rfl) (ix_in b_85) dX9_make_298 ?_
            refine lv_topi (fun v_86 ev_86 => ?_)
            have h := lt_n ev_86 h
            refine lv_iconst (v := 1) F.1 F.2.1 dX9_make_299 (by decide) ?_
            obtain ⟨b_87, h⟩ := gd_some h
            refine rw_zast ndM (q0 := 13) F hK hW hS idM_13 (fun _ => rfl) (ix_in b_87) dX9_make_300 (fun H locs S_88 eS_88 hW hS => ?_)
            have h := lt_n eS_88 h
            exact w_X9_make_301 F hr hlk hK out kb k307 Kb K307 _ _ _ _ _  hW hS hl h
set_option maxHeartbeats 4000000 in
set_option maxRecDepth 100000 in
theorem w_X9_make_364 {p : Program} {l : Launch} {e : Env} {s : State} {m : MethodId} {args : Array Value} {below : List Frame} {meth : Method} {c : Code} {G : GT} {A : Nat → Prop} (F : CallFix p m c cX9_make 3 s args wsX9_make RX9) (hr : meth.sig.returnType = none) (hlk : meth.locks = false) (hK : va_K G.1 vwCl (tyl G) s) (out : St) (kb : St → Int32 → Option (St)) (Kb : ∀ (S : St) (x1 : Int32) (H : Heap) (locs : List Loc) (ls : Array Slot), Wd shM idsM G A S H → va_S A s.heap H locs → lv_has ls 3 [(0, .ref (G.2.2 0 0)), (1, .int x1)] → kb S x1 = some out → W p l e rm_X9_make s m args below meth c H locs 0 0 (MQ below (QV shM idsM G A out) args s 0 0 A) (F0 m 309 ls [])) : ∀ (S : St) (x1 : Int32) (y1 : Int32) (y2 : Int32) (H : Heap) (locs : List Loc) (ls : Array Slot), Wd shM idsM G A S H → va_S A s.heap H locs → lv_has ls 3 [(0, .ref (G.2.2 0 0)), (1, .int x1)] → j_X9_make_364 kb S x1 y1 y2 = some out → W p l e rm_X9_make s m args below meth c H locs 0 0 (MQ below (QV shM idsM G A out) args s 0 0 A) (F0 m 364 ls [.int y2, .int y1, .ref (G.2.2 14 0)]) := by
  intro S x1 y1 y2 H locs ls hW hS hl h
  unfold j_X9_make_364 at h
  obtain ⟨b_93, h⟩ := gd_some h
  refine rw_zast ndM (q0 := 14) F hK hW hS idM_14 (fun _ => rfl) (ix_in b_93) dX9_make_364 (fun H locs S_94 eS_94 hW hS => ?_)
  have h := lt_n eS_94 h
  obtain ⟨v_95, ev_95⟩ : ∃ y : Int32, y = x1 + 1 := ⟨_, rfl⟩
  have h := lt_n ev_95 h
  refine lv_iinc (v := v_95) (lv' := [(1, .int v_95), (0, .ref (G.2.2 0 0))]) F.1 F.2.1 dX9_make_365 hl (k := 1) rfl (by rw [ev_95]; rfl) (by decide) rfl (fun ls hl => ?_)
  refine lv_goto (tgt := 309) F.1 F.2.1 dX9_make_368 (by decide) ?_
  exact Kb _ _ _ _ _  hW hS (lv_sub hl [1, 0] rfl) h
set_option maxHeartbeats 4000000 in
set_option maxRecDepth 100000 in
theorem w_X9_make_363 {p : Program} {l : Launch} {e : Env} {s : State} {m : MethodId} {args : Array Value} {below : List Frame} {meth : Method} {c : Code} {G : GT} {A : Nat → Prop} (F : CallFix p m c cX9_make 3 s args wsX9_make RX9) (hr : meth.sig.returnType = none) (hlk : meth.locks = false) (hK : va_K G.1 vwCl (tyl G) s) (out : St) (kb : St → Int32 → Option (St)) (Kb : ∀ (S : St) (x1 : Int32) (H : Heap) (locs : List Loc) (ls : Array Slot), Wd shM idsM G A S H → va_S A s.heap H locs → lv_has ls 3 [(0, .ref (G.2.2 0 0)), (1, .int x1)] → kb S x1 = some out → W p l e rm_X9_make s m args below meth c H locs 0 0 (MQ below (QV shM idsM G A out) args s 0 0 A) (F0 m 309 ls [])) : ∀ (S : St) (x1 : Int32) (y1 : Int32) (H : Heap) (locs : List Loc) (ls : Array Slot), Wd shM idsM G A S H → va_S A s.heap H locs → lv_has ls 3 [(0, .ref (G.2.2 0 0)), (1, .int x1)] → j_X9_make_363 kb S x1 y1 = some out → W p l e rm_X9_make s m args below meth c H locs 0 0 (MQ below (QV shM idsM G A out) args s 0 0 A) (F0 m 363 ls [.int y1, .ref (G.2.2 14 0)]) := by
  intro S x1 y1 H locs ls hW hS hl h
  unfold j_X9_make_363 at h
  refine lv_iconst (v := 0) F.1 F.2.1 dX9_make_363 (by decide) ?_
  exact w_X9_make_364 F hr hlk hK out kb Kb _ _ _ _ _ _ _  hW hS hl h
set_option maxHeartbeats 4000000 in
set_option maxRecDepth 100000 in
theorem w_X9_make_359 {p : Program} {l : Launch} {e : Env} {s : State} {m : MethodId} {args : Array Value} {below : List Frame} {meth : Method} {c : Code} {G : GT} {A : Nat → Prop} (F : CallFix p m c cX9_make 3 s args wsX9_make RX9) (hr : meth.sig.returnType = none) (hlk : meth.locks = false) (hK : va_K G.1 vwCl (tyl G) s) (out : St) (kb : St → Int32 → Option (St)) (Kb : ∀ (S : St) (x1 : Int32) (H : Heap) (locs : List Loc) (ls : Array Slot), Wd shM idsM G A S H → va_S A s.heap H locs → lv_has ls 3 [(0, .ref (G.2.2 0 0)), (1, .int x1)] → kb S x1 = some out → W p l e rm_X9_make s m args below meth c H locs 0 0 (MQ below (QV shM idsM G A out) args s 0 0 A) (F0 m 309 ls [])) : ∀ (S : St) (x1 : Int32) (y1 : Int32) (H : Heap) (locs : List Loc) (ls : Array Slot), Wd shM idsM G A S H → va_S A s.heap H locs → lv_has ls 3 [(0, .ref (G.2.2 0 0)), (1, .int x1)] → j_X9_make_359 kb S x1 y1 = some out → W p l e rm_X9_make s m args below meth c H locs 0 0 (MQ below (QV shM idsM G A out) args s 0 0 A) (F0 m 359 ls [.int y1, .ref (G.2.2 14 0)]) := by
  intro S x1 y1 H locs ls hW hS hl h
  unfold j_X9_make_359 at h
  refine lv_iconst (v := 1) F.1 F.2.1 dX9_make_359 (by decide) ?_
  refine lv_goto (tgt := 364) F.1 F.2.1 dX9_make_360 (by decide) ?_
  exact w_X9_make_364 F hr hlk hK out kb Kb _ _ _ _ _ _ _  hW hS hl h
set_option maxHeartbeats 4000000 in
set_option maxRecDepth 100000 in
theorem w_X9_make_309 {p : Program} {l : Launch} {e : Env} {s : State} {m : MethodId} {args : Array Value} {below : List Frame} {meth : Method} {c : Code} {G : GT} {A : Nat → Prop} (F : CallFix p m c cX9_make 3 s args wsX9_make RX9) (hr : meth.sig.returnType = none) (hlk : meth.locks = false) (hK : va_K G.1 vwCl (tyl G) s) (out : St) : ∀ n : Nat, ∀ (S : St) (x1 : Int32) (H : Heap) (locs : List Loc) (ls : Array Slot), Wd shM idsM G A S H → va_S A s.heap H locs → lv_has ls 3 [(0, .ref (G.2.2 0 0)), (1, .int x1)] → l_X9_make_309 n S x1 = some out → W p l e rm_X9_make s m args below meth c H locs 0 0 (MQ below (QV shM idsM G A out) args s 0 0 A) (F0 m 309 ls []) := by
  intro n
  induction n with
  | zero =>
    intro S x1 H locs ls hW hS hl h
    cases h
  | succ n Kb =>
    generalize hkb : l_X9_make_309 n = kb at Kb
    intro S x1 H locs ls hW hS hl h
    rw [show l_X9_make_309 (n + 1) = b_X9_make_309 (l_X9_make_309 n) from rfl, hkb] at h
    unfold b_X9_make_309 at h
    refine lv_iload_n F.1 F.2.1 dX9_make_309 rfl (lv_at hl 1 rfl) ?_
    refine lv_aload_n F.1 F.2.1 dX9_make_310 rfl (lv_at hl 0 rfl) ?_
    refine rw_get (q0 := 0) F hK hW idM_0 rfl rfl in_X9_make_X9 11 (by decide) lk_X9_make_163 rfl dX9_make_311 ?_
    refine lv_icmp_ge (tgt := 371) F.1 F.2.1 dX9_make_314 (by decide) (fun c_89 => ?_) (fun c_89 => ?_)
    · have h := (if_pos c_89).symm.trans h
      exact rw_retv F hr hlk hK hW hS h dX9_make_371
    · have h := (if_neg c_89).symm.trans h
      refine lv_aload_n F.1 F.2.1 dX9_make_317 rfl (lv_at hl 0 rfl) ?_
      refine rw_get (q0 := 0) F hK hW idM_0 rfl rfl in_X9_make_X9 18 (by decide) lk_X9_make_50 rfl dX9_make_318 ?_
      refine lv_iload_n F.1 F.2.1 dX9_make_321 rfl (lv_at hl 1 rfl) ?_
      refine lv_aload_n F.1 F.2.1 dX9_make_322 rfl (lv_at hl 0 rfl) ?_
      refine rw_get (q0 := 0) F hK hW idM_0 rfl rfl in_X9_make_X9 17 (by decide) lk_X9_make_46 rfl dX9_make_323 ?_
      refine lv_iload_n F.1 F.2.1 dX9_make_326 rfl (lv_at hl 1 rfl) ?_
      obtain ⟨b_90, h⟩ := gd_some h
      refine rw_zald (q0 := 13) F hK hW idM_13 (fun _ => rfl) (ix_in b_90) dX9_make_327 ?_
      refine lv_topi (fun v_91 ev_91 => ?_)
      have h := lt_n ev_91 h
      refine lv_if_eq (tgt := 363) F.1 F.2.1 dX9_make_328 (by decide) (fun c_92 => ?_) (fun c_92 => ?_)
      · have h := (if_pos c_92).symm.trans h
        exact w_X9_make_363 F hr hlk hK out kb Kb _ _ _ _ _ _  hW hS hl h
      · have h := (if_neg c_92).symm.trans h
        refine lv_aload_n F.1 F.2.1 dX9_make_331 rfl (lv_at hl 0 rfl) ?_
        refine rw_get (q0 := 0) F hK hW idM_0 rfl rfl in_X9_make_X9 12 (by decide) lk_X9_make_31 rfl dX9_make_332 ?_
        refine lv_iload_n F.1 F.2.1 dX9_make_335 rfl (lv_at hl 1 rfl) ?_
        obtain ⟨b_96, h⟩ := gd_some h
        refine rw_iald (q0 := 8) F hK hW idM_8 (fun _ => rfl) (ix_in b_96) dX9_make_336 ?_
        refine lv_topi (fun v_97 ev_97 => ?_)
        have h := lt_n ev_97 h
        refine lv_if_eq (tgt := 363) F.1 F.2.1 dX9_make_337 (by decide) (fun c_98 => ?_) (fun c_98 => ?_)
        · have h := (if_pos c_98).symm.trans h
          exact w_X9_make_363 F hr hlk hK out kb Kb _ _ _ _ _ _  hW hS hl h
        · have h := (if_neg c_98).symm.trans h
          refine lv_aload_n F.1 F.2.1 dX9_make_340 rfl (lv_at hl 0 rfl) ?_
          refine rw_get (q0 := 0) F hK hW idM_0 rfl rfl in_X9_make_X9 18 (by decide) lk_X9_make_50 rfl dX9_make_341 ?_
          refine lv_iload_n F.1 F.2.1 dX9_make_344 rfl (lv_at hl 1 rfl) ?_
          obtain ⟨b_99, h⟩ := gd_some h
          refine rw_zald (q0 := 14) F hK hW idM_14 (fun _ => rfl) (ix_in b_99) dX9_make_345 ?_
          refine lv_topi (fun v_100 ev_100 => ?_)
          have h := lt_n ev_100 h
          refine lv_if_ne (tgt := 359) F.1 F.2.1 dX9_make_346 (by decide) (fun c_101 => ?_) (fun c_101 => ?_)
          · have h := (if_neg c_101).symm.trans h
            exact w_X9_make_359 F hr hlk hK out kb Kb _ _ _ _ _ _  hW hS hl h
          · have h := (if_pos c_101).symm.trans h
            refine lv_aload_n F.1 F.2.1 dX9_make_349 rfl (lv_at hl 0 rfl) ?_
            refine rw_get (q0 := 0) F hK hW idM_0 rfl rfl in_X9_make_X9 16 (by decide) lk_X9_make_43 rfl dX9_make_350 ?_
            refine lv_iload_n F.1 F.2.1 dX9_make_353 rfl (lv_at hl 1 rfl) ?_
            obtain ⟨b_102, h⟩ := gd_some h
            refine rw_iald (q0 := 12) F hK hW idM_12 (fun _ => rfl) (ix_in b_102) dX9_make_354 ?_
            refine lv_topi (fun v_103 ev_103 => ?_)
            have h := lt_n ev_103 h
            refine lv_iconst (v := 1) F.1 F.2.1 dX9_make_355 (by decide) ?_
            refine lv_icmp_eq (tgt := 363) F.1 F.2.1 dX9_make_356 (by decide) (fun c_104 => ?_) (fun c_104 => ?_)
            · have h := (if_pos c_104).symm.trans h
              exact w_X9_make_363 F hr hlk hK out kb Kb _ _ _ _ _ _  hW hS hl h
            · have h := (if_neg c_104).symm.trans h
              exact w_X9_make_359 F hr hlk hK out kb Kb _ _ _ _ _ _  hW hS hl h
set_option maxHeartbeats 4000000 in
set_option maxRecDepth 100000 in
theorem c_X9_make (l : Launch) (G : GT) (A : Nat → Prop) (S : St) (out : St) (h : f_X9_make S = some out) : Met l yX9_make wsX9_make rm_X9_make (va_Pc [.ref (G.2.2 0 0)] (WD shM idsM G A S)) (QV shM idsM G A out) 0 0 A := by
  refine Met.ofW (cc := cX9_make) (maxL := 3) (ret := none) (by decide) rfl ?_
  intro p e s m args below meth c s₁ B hml hv
  obtain ⟨rfl, hW, hK⟩ := hv
  have F : CallFix p m c cX9_make 3 s _ wsX9_make RX9 := ⟨B.exec, B.bytes, hml, findClass_of_methodNamed B.named, atoms_spec (ws := wsX9_make) B.pre⟩
  have hr := B.returns
  have hlk := B.notSynchronized
  have hS : va_S A s.heap s.heap [] := va_S.rf
  have hl := lv_entry ([.ref (G.2.2 0 0)]) (n := 3) (Nat.le_of_ble_eq_true rfl)
  rw [lg_entry_eq]
  generalize (lg_sl ([.ref (G.2.2 0 0)]) ++ List.replicate (3 - (lg_sl ([.ref (G.2.2 0 0)])).length) Slot.unset).toArray = ls at hl ⊢
  have hl : lv_has ls 3 [(0, .ref (G.2.2 0 0))] := hl
  unfold f_X9_make at h
  refine lv_aload_n F.1 F.2.1 dX9_make_0 rfl (lv_at hl 0 rfl) ?_
  refine lv_iconst (v := 0) F.1 F.2.1 dX9_make_1 (by decide) ?_
  refine rw_put ndM (q0 := 0) (x := 0) F hK hW hS idM_0 rfl rfl in_X9_make_X9 tyX9 tyX9_ok nmX9 11 (by decide) lk_X9_make_163 rfl (ty := .int) (by decide +kernel) rfl rfl (Nat.le_of_ble_eq_true rfl) rfl dX9_make_2 (fun H locs S_1 eS_1 hW hS => ?_)
  have h := lt_n eS_1 h
  refine lv_iconst (v := 0) F.1 F.2.1 dX9_make_5 (by decide) ?_
  refine lv_istore_n (lv' := [(1, .int 0), (0, .ref (G.2.2 0 0))]) F.1 F.2.1 dX9_make_6 rfl hl (by decide) rfl (fun ls hl => ?_)
  refine w_X9_make_7 F hr hlk hK out _ ?_ 5000 _ _ _ _ _  hW hS (lv_sub hl [1, 0] rfl) h
  · intro S H locs ls hW hS hl h
    refine lv_iconst (v := 0) F.1 F.2.1 dX9_make_119 (by decide) ?_
    refine lv_istore_n (lv' := [(1, .int 0), (0, .ref (G.2.2 0 0))]) F.1 F.2.1 dX9_make_120 rfl hl (by decide) rfl (fun ls hl => ?_)
    refine w_X9_make_121 F hr hlk hK out _ ?_ 5000 _ _ _ _ _  hW hS (lv_sub hl [1, 0] rfl) h
    · intro S H locs ls hW hS hl h
      refine lv_iconst (v := 0) F.1 F.2.1 dX9_make_156 (by decide) ?_
      refine lv_istore_n (lv' := [(1, .int 0), (0, .ref (G.2.2 0 0))]) F.1 F.2.1 dX9_make_157 rfl hl (by decide) rfl (fun ls hl => ?_)
      refine w_X9_make_158 F hr hlk hK out _ ?_ 5000 _ _ _ _ _  hW hS (lv_sub hl [1, 0] rfl) h
      · intro S H locs ls hW hS hl h
        refine lv_aload_n F.1 F.2.1 dX9_make_208 rfl (lv_at hl 0 rfl) ?_
        refine rw_get (q0 := 0) F hK hW idM_0 rfl rfl in_X9_make_X9 11 (by decide) lk_X9_make_163 rfl dX9_make_209 ?_
        refine lv_iconst (v := 1) F.1 F.2.1 dX9_make_212 (by decide) ?_
        refine lv_isub F.1 F.2.1 dX9_make_213 ?_
        refine lv_topi (fun v_57 ev_57 => ?_)
        have h := lt_n ev_57 h
        refine lv_istore_n (lv' := [(1, .int v_57), (0, .ref (G.2.2 0 0))]) F.1 F.2.1 dX9_make_214 rfl hl (by decide) rfl (fun ls hl => ?_)
        refine w_X9_make_215 F hr hlk hK out _ ?_ 5000 _ _ _ _ _  hW hS (lv_sub hl [1, 0] rfl) h
        · intro S H locs ls hW hS hl h
          refine lv_iconst (v := 0) F.1 F.2.1 dX9_make_307 (by decide) ?_
          refine lv_istore_n (lv' := [(1, .int 0), (0, .ref (G.2.2 0 0))]) F.1 F.2.1 dX9_make_308 rfl hl (by decide) rfl (fun ls hl => ?_)
          refine w_X9_make_309 F hr hlk hK out   5000 _ _ _ _ _  hW hS (lv_sub hl [1, 0] rfl) h
/-! CellCoverModel.newNode(IIII)I -/
abbrev rm_X9_newNode : Room := { frames := 4, cells := 0, slots := 0, locals := 101 }
theorem in_X9_newNode_X9 : ∀ w ∈ wsX90, w ∈ wsX9_newNode := by decide +kernel
theorem lk_X9_newNode_136 : Cond.fieldLink RX9 136 "CellCoverModel" "nodes" "I" ∈ wsX9_newNode := by decide +kernel
theorem lk_X9_newNode_7 : Cond.fieldLink RX9 7 "CellCoverModel" "nKind" "[I" ∈ wsX9_newNode := by decide +kernel
theorem lk_X9_newNode_13 : Cond.fieldLink RX9 13 "CellCoverModel" "nA" "[I" ∈ wsX9_newNode := by decide +kernel
theorem lk_X9_newNode_16 : Cond.fieldLink RX9 16 "CellCoverModel" "nB" "[I" ∈ wsX9_newNode := by decide +kernel
theorem lk_X9_newNode_19 : Cond.fieldLink RX9 19 "CellCoverModel" "nC" "[I" ∈ wsX9_newNode := by decide +kernel
set_option maxHeartbeats 4000000 in
set_option maxRecDepth 100000 in
theorem c_X9_newNode (l : Launch) (G : GT) (A : Nat → Prop) (a0 : Int32) (a1 : Int32) (a2 : Int32) (a3 : Int32) (S : St) (out : Int32 × St) (h : f_X9_newNode a0 a1 a2 a3 S = some out) : Met l yX9_newNode wsX9_newNode rm_X9_newNode (va_Pc [.ref (G.2.2 0 0), .int a0, .int a1, .int a2, .int a3] (WD shM idsM G A S)) (QI shM idsM G A out) 0 0 A := by
  refine Met.ofW (cc := cX9_newNode) (maxL := 5) (ret := (some .int)) (by decide) rfl ?_
  intro p e s m args below meth c s₁ B hml hv
  obtain ⟨rfl, hW, hK⟩ := hv
  have F : CallFix p m c cX9_newNode 5 s _ wsX9_newNode RX9 := ⟨B.exec, B.bytes, hml, findClass_of_methodNamed B.named, atoms_spec (ws := wsX9_newNode) B.pre⟩
  have hr := B.returns
  have hlk := B.notSynchronized
  have hS : va_S A s.heap s.heap [] := va_S.rf
  have hl := lv_entry ([.ref (G.2.2 0 0), .int a0, .int a1, .int a2, .int a3]) (n := 5) (Nat.le_of_ble_eq_true rfl)
  rw [lg_entry_eq]
  generalize (lg_sl ([.ref (G.2.2 0 0), .int a0, .int a1, .int a2, .int a3]) ++ List.replicate (5 - (lg_sl ([.ref (G.2.2 0 0), .int a0, .int a1, .int a2, .int a3])).length) Slot.unset).toArray = ls at hl ⊢
  have hl : lv_has ls 5 [(0, .ref (G.2.2 0 0)), (1, .int a0), (2, .int a1), (3, .int a2), (4, .int a3)] := hl
  unfold f_X9_newNode at h
  refine lv_aload_n F.1 F.2.1 dX9_newNode_0 rfl (lv_at hl 0 rfl) ?_
  refine rw_get (q0 := 0) F hK hW idM_0 rfl rfl in_X9_newNode_X9 0 (by decide) lk_X9_newNode_136 rfl dX9_newNode_1 ?_
  refine lv_bipush (v := 40) F.1 F.2.1 dX9_newNode_4 (by decide) ?_
  refine lv_icmp_ne (tgt := 12) F.1 F.2.1 dX9_newNode_6 (by decide) (fun c_1 => ?_) (fun c_1 => ?_)
  · have h := (if_neg c_1).symm.trans h
    refine lv_aload_n F.1 F.2.1 dX9_newNode_12 rfl (lv_at hl 0 rfl) ?_
    refine rw_get (q0 := 0) F hK hW idM_0 rfl rfl in_X9_newNode_X9 1 (by decide) lk_X9_newNode_7 rfl dX9_newNode_13 ?_
    refine lv_aload_n F.1 F.2.1 dX9_newNode_16 rfl (lv_at hl 0 rfl) ?_
    refine rw_get (q0 := 0) F hK hW idM_0 rfl rfl in_X9_newNode_X9 0 (by decide) lk_X9_newNode_136 rfl dX9_newNode_17 ?_
    refine lv_iload_n F.1 F.2.1 dX9_newNode_20 rfl (lv_at hl 1 rfl) ?_
    obtain ⟨b_2, h⟩ := gd_some h
    refine rw_iast ndM (q0 := 1) F hK hW hS idM_1 (fun _ => rfl) (ix_in b_2) dX9_newNode_21 (fun H locs S_3 eS_3 hW hS => ?_)
    have h := lt_n eS_3 h
    refine lv_aload_n F.1 F.2.1 dX9_newNode_22 rfl (lv_at hl 0 rfl) ?_
    refine rw_get (q0 := 0) F hK hW idM_0 rfl rfl in_X9_newNode_X9 2 (by decide) lk_X9_newNode_13 rfl dX9_newNode_23 ?_
    refine lv_aload_n F.1 F.2.1 dX9_newNode_26 rfl (lv_at hl 0 rfl) ?_
    refine rw_get (q0 := 0) F hK hW idM_0 rfl rfl in_X9_newNode_X9 0 (by decide) lk_X9_newNode_136 rfl dX9_newNode_27 ?_
    refine lv_iload_n F.1 F.2.1 dX9_newNode_30 rfl (lv_at hl 2 rfl) ?_
    obtain ⟨b_4, h⟩ := gd_some h
    refine rw_iast ndM (q0 := 2) F hK hW hS idM_2 (fun _ => rfl) (ix_in b_4) dX9_newNode_31 (fun H locs S_5 eS_5 hW hS => ?_)
    have h := lt_n eS_5 h
    refine lv_aload_n F.1 F.2.1 dX9_newNode_32 rfl (lv_at hl 0 rfl) ?_
    refine rw_get (q0 := 0) F hK hW idM_0 rfl rfl in_X9_newNode_X9 3 (by decide) lk_X9_newNode_16 rfl dX9_newNode_33 ?_
    refine lv_aload_n F.1 F.2.1 dX9_newNode_36 rfl (lv_at hl 0 rfl) ?_
    refine rw_get (q0 := 0) F hK hW idM_0 rfl rfl in_X9_newNode_X9 0 (by decide) lk_X9_newNode_136 rfl dX9_newNode_37 ?_
    refine lv_iload_n F.1 F.2.1 dX9_newNode_40 rfl (lv_at hl 3 rfl) ?_
    obtain ⟨b_6, h⟩ := gd_some h
    refine rw_iast ndM (q0 := 3) F hK hW hS idM_3 (fun _ => rfl) (ix_in b_6) dX9_newNode_41 (fun H locs S_7 eS_7 hW hS => ?_)
    have h := lt_n eS_7 h
    refine lv_aload_n F.1 F.2.1 dX9_newNode_42 rfl (lv_at hl 0 rfl) ?_
    refine rw_get (q0 := 0) F hK hW idM_0 rfl rfl in_X9_newNode_X9 4 (by decide) lk_X9_newNode_19 rfl dX9_newNode_43 ?_
    refine lv_aload_n F.1 F.2.1 dX9_newNode_46 rfl (lv_at hl 0 rfl) ?_
    refine rw_get (q0 := 0) F hK hW idM_0 rfl rfl in_X9_newNode_X9 0 (by decide) lk_X9_newNode_136 rfl dX9_newNode_47 ?_
    refine lv_iload F.1 F.2.1 dX9_newNode_50 (lv_at hl 4 rfl) ?_
    obtain ⟨b_8, h⟩ := gd_some h
    refine rw_iast ndM (q0 := 4) F hK hW hS idM_4 (fun _ => rfl) (ix_in b_8) dX9_newNode_52 (fun H locs S_9 eS_9 hW hS => ?_)
    have h := lt_n eS_9 h
    refine lv_aload_n F.1 F.2.1 dX9_newNode_53 rfl (lv_at hl 0 rfl) ?_
    refine lv_dup F.1 F.2.1 dX9_newNode_54 rfl ?_
    refine rw_get (q0 := 0) F hK hW idM_0 rfl rfl in_X9_newNode_X9 0 (by decide) lk_X9_newNode_136 rfl dX9_newNode_55 ?_
    refine lv_iconst (v := 1) F.1 F.2.1 dX9_newNode_58 (by decide) ?_
    refine lv_iadd F.1 F.2.1 dX9_newNode_59 ?_
    refine rw_put ndM (q0 := 0) (x := (S_9 0 0 0) + 1) F hK hW hS idM_0 rfl rfl in_X9_newNode_X9 tyX9 tyX9_ok nmX9 0 (by decide) lk_X9_newNode_136 rfl (ty := .int) (by decide +kernel) rfl rfl (Nat.le_of_ble_eq_true rfl) rfl dX9_newNode_60 (fun H locs S_10 eS_10 hW hS => ?_)
    have h := lt_n eS_10 h
    refine lv_aload_n F.1 F.2.1 dX9_newNode_63 rfl (lv_at hl 0 rfl) ?_
    refine lv_iconst (v := 0) F.1 F.2.1 dX9_newNode_64 (by decide) ?_
    refine lv_iconst (v := 0) F.1 F.2.1 dX9_newNode_65 (by decide) ?_
    obtain ⟨q_11, hq_11, h⟩ := bv_some h
    refine rw_vv F hK hW hS [.int 0, .int 0] (rest := []) (c_X9_did l G A 0 0 S_10 q_11 hq_11) (cwV 2 F.2.2.2.2 gX9_newNode_X9_did rfl rfl rfl (by decide +kernel) ⟨Nat.le_of_ble_eq_true rfl, Nat.le_of_ble_eq_true rfl⟩) (rw_recv (q0 := 0) hK hW idM_0 rfl rfl) rfl hl.1 rfl (Nat.le_of_ble_eq_true rfl) dX9_newNode_66 (fun H locs hW hS => ?_)
    refine lv_aload_n F.1 F.2.1 dX9_newNode_69 rfl (lv_at hl 0 rfl) ?_
    obtain ⟨q_13, hq_13, h⟩ := bv_some h
    refine rw_vv F hK hW hS [] (rest := []) (c_X9_make l G A  q_11 q_13 hq_13) (cwV 0 F.2.2.2.2 gX9_newNode_X9_make rfl rfl rfl (by decide +kernel) ⟨Nat.le_of_ble_eq_true rfl, Nat.le_of_ble_eq_true rfl⟩) (rw_recv (q0 := 0) hK hW idM_0 rfl rfl) rfl hl.1 rfl (Nat.le_of_ble_eq_true rfl) dX9_newNode_70 (fun H locs hW hS => ?_)
    refine lv_aload_n F.1 F.2.1 dX9_newNode_73 rfl (lv_at hl 0 rfl) ?_
    refine rw_get (q0 := 0) F hK hW idM_0 rfl rfl in_X9_newNode_X9 0 (by decide) lk_X9_newNode_136 rfl dX9_newNode_74 ?_
    refine lv_iconst (v := 1) F.1 F.2.1 dX9_newNode_77 (by decide) ?_
    refine lv_isub F.1 F.2.1 dX9_newNode_78 ?_
    exact rw_ret F hr hlk hK hW hS h dX9_newNode_79
  · have h := (if_pos c_1).symm.trans h
    refine lv_bipush (v := -3) F.1 F.2.1 dX9_newNode_9 (by decide) ?_
    exact rw_ret F hr hlk hK hW hS h dX9_newNode_11
/-! CellCoverModel.input()I -/
abbrev rm_X9_input : Room := { frames := 5, cells := 0, slots := 0, locals := 125 }
set_option maxHeartbeats 4000000 in
set_option maxRecDepth 100000 in
theorem c_X9_input (l : Launch) (G : GT) (A : Nat → Prop) (S : St) (out : Int32 × St) (h : f_X9_input S = some out) : Met l yX9_input wsX9_input rm_X9_input (va_Pc [.ref (G.2.2 0 0)] (WD shM idsM G A S)) (QI shM idsM G A out) 0 0 A := by
  refine Met.ofW (cc := cX9_input) (maxL := 1) (ret := (some .int)) (by decide) rfl ?_
  intro p e s m args below meth c s₁ B hml hv
  obtain ⟨rfl, hW, hK⟩ := hv
  have F : CallFix p m c cX9_input 1 s _ wsX9_input RX9 := ⟨B.exec, B.bytes, hml, findClass_of_methodNamed B.named, atoms_spec (ws := wsX9_input) B.pre⟩
  have hr := B.returns
  have hlk := B.notSynchronized
  have hS : va_S A s.heap s.heap [] := va_S.rf
  have hl := lv_entry ([.ref (G.2.2 0 0)]) (n := 1) (Nat.le_of_ble_eq_true rfl)
  rw [lg_entry_eq]
  generalize (lg_sl ([.ref (G.2.2 0 0)]) ++ List.replicate (1 - (lg_sl ([.ref (G.2.2 0 0)])).length) Slot.unset).toArray = ls at hl ⊢
  have hl : lv_has ls 1 [(0, .ref (G.2.2 0 0))] := hl
  unfold f_X9_input at h
  refine lv_aload_n F.1 F.2.1 dX9_input_0 rfl (lv_at hl 0 rfl) ?_
  refine lv_iconst (v := -1) F.1 F.2.1 dX9_input_1 (by decide) ?_
  refine lv_iconst (v := 0) F.1 F.2.1 dX9_input_2 (by decide) ?_
  refine lv_iconst (v := 0) F.1 F.2.1 dX9_input_3 (by decide) ?_
  refine lv_iconst (v := 0) F.1 F.2.1 dX9_input_4 (by decide) ?_
  obtain ⟨r_2, S_3, hq_1, h⟩ := bi_some h
  refine rw_vi F hK hW hS [.int ((-1)), .int 0, .int 0, .int 0] (rest := []) (c_X9_newNode l G A ((-1)) 0 0 0 S (r_2, S_3) hq_1) (cwV 4 F.2.2.2.2 gX9_input_X9_newNode rfl rfl rfl (by decide +kernel) ⟨Nat.le_of_ble_eq_true rfl, Nat.le_of_ble_eq_true rfl⟩) (rw_recv (q0 := 0) hK hW idM_0 rfl rfl) rfl hl.1 rfl (Nat.le_of_ble_eq_true rfl) dX9_input_5 (fun H locs hW hS => ?_)
  exact rw_ret F hr hlk hK hW hS h dX9_input_8
/-! CellCoverModel.gate(IIII)I -/
abbrev rm_X9_gate : Room := { frames := 5, cells := 0, slots := 0, locals := 125 }
theorem lk_X9_gate_154 : Cond.constantLong RX9 154 6 ∈ wsX9_gate := by decide +kernel
set_option maxHeartbeats 4000000 in
set_option maxRecDepth 100000 in
theorem w_X9_gate_72 {p : Program} {l : Launch} {e : Env} {s : State} {m : MethodId} {args : Array Value} {below : List Frame} {meth : Method} {c : Code} {G : GT} {A : Nat → Prop} (F : CallFix p m c cX9_gate 6 s args wsX9_gate RX9) (hr : meth.sig.returnType = (some .int)) (hlk : meth.locks = false) (hK : va_K G.1 vwCl (tyl G) s) (out : Int32 × St) : ∀ (S : St) (y0 : Int32) (H : Heap) (locs : List Loc) (ls : Array Slot), Wd shM idsM G A S H → va_S A s.heap H locs → lv_has ls 6 [] → j_X9_gate_72 S y0 = some out → W p l e rm_X9_gate s m args below meth c H locs 0 0 (MQ below (QI shM idsM G A out) args s 0 0 A) (F0 m 72 ls [.int y0]) := by
  intro S y0 H locs ls hW hS hl h
  unfold j_X9_gate_72 at h
  exact rw_ret F hr hlk hK hW hS h dX9_gate_72
set_option maxHeartbeats 4000000 in
set_option maxRecDepth 100000 in
theorem w_X9_gate_52 {p : Program} {l : Launch} {e : Env} {s : State} {m : MethodId} {args : Array Value} {below : List Frame} {meth : Method} {c : Code} {G : GT} {A : Nat → Prop} (F : CallFix p m c cX9_gate 6 s args wsX9_gate RX9) (hr : meth.sig.returnType = (some .int)) (hlk : meth.locks = false) (hK : va_K G.1 vwCl (tyl G) s) (out : Int32 × St) : ∀ (S : St) (x1 : Int32) (x2 : Int32) (x3 : Int32) (x4 : Int32) (y0 : Int32) (H : Heap) (locs : List Loc) (ls : Array Slot), Wd shM idsM G A S H → va_S A s.heap H locs → lv_has ls 6 [(0, .ref (G.2.2 0 0)), (1, .int x1), (2, .int x2), (3, .int x3), (4, .int x4)] → j_X9_gate_52 S x1 x2 x3 x4 y0 = some out → W p l e rm_X9_gate s m args below meth c H locs 0 0 (MQ below (QI shM idsM G A out) args s 0 0 A) (F0 m 52 ls [.int y0]) := by
  intro S x1 x2 x3 x4 y0 H locs ls hW hS hl h
  unfold j_X9_gate_52 at h
  refine lv_istore (lv' := [(5, .int y0), (0, .ref (G.2.2 0 0)), (1, .int x1), (2, .int x2), (3, .int x3), (4, .int x4)]) F.1 F.2.1 dX9_gate_52 hl (by decide) rfl (fun ls hl => ?_)
  refine lv_iload F.1 F.2.1 dX9_gate_54 (lv_at hl 0 rfl) ?_
  refine lv_if_eq (tgt := 71) F.1 F.2.1 dX9_gate_56 (by decide) (fun c_5 => ?_) (fun c_5 => ?_)
  · have h := (if_pos c_5).symm.trans h
    refine lv_iconst (v := -1) F.1 F.2.1 dX9_gate_71 (by decide) ?_
    exact w_X9_gate_72 F hr hlk hK out  _ _ _ _ _  hW hS (lv_sub hl [] rfl) h
  · have h := (if_neg c_5).symm.trans h
    refine lv_aload_n F.1 F.2.1 dX9_gate_59 rfl (lv_at hl 1 rfl) ?_
    refine lv_iload_n F.1 F.2.1 dX9_gate_60 rfl (lv_at hl 2 rfl) ?_
    refine lv_iload_n F.1 F.2.1 dX9_gate_61 rfl (lv_at hl 3 rfl) ?_
    refine lv_iload_n F.1 F.2.1 dX9_gate_62 rfl (lv_at hl 4 rfl) ?_
    refine lv_iload F.1 F.2.1 dX9_gate_63 (lv_at hl 5 rfl) ?_
    obtain ⟨r_7, S_8, hq_6, h⟩ := bi_some h
    refine rw_vi F hK hW hS [.int x1, .int x2, .int x3, .int x4] (rest := []) (c_X9_newNode l G A x1 x2 x3 x4 S (r_7, S_8) hq_6) (cwV 4 F.2.2.2.2 gX9_gate_X9_newNode rfl rfl rfl (by decide +kernel) ⟨Nat.le_of_ble_eq_true rfl, Nat.le_of_ble_eq_true rfl⟩) (rw_recv (q0 := 0) hK hW idM_0 rfl rfl) rfl hl.1 rfl (Nat.le_of_ble_eq_true rfl) dX9_gate_65 (fun H locs hW hS => ?_)
    refine lv_goto (tgt := 72) F.1 F.2.1 dX9_gate_68 (by decide) ?_
    exact w_X9_gate_72 F hr hlk hK out  _ _ _ _ _  hW hS (lv_sub hl [] rfl) h
set_option maxHeartbeats 4000000 in
set_option maxRecDepth 100000 in
theorem w_X9_gate_51 {p : Program} {l : Launch} {e : Env} {s : State} {m : MethodId} {args : Array Value} {below : List Frame} {meth : Method} {c : Code} {G : GT} {A : Nat → Prop} (F : CallFix p m c cX9_gate 6 s args wsX9_gate RX9) (hr : meth.sig.returnType = (some .int)) (hlk : meth.locks = false) (hK : va_K G.1 vwCl (tyl G) s) (out : Int32 × St) : ∀ (S : St) (x1 : Int32) (x2 : Int32) (x3 : Int32) (x4 : Int32) (H : Heap) (locs : List Loc) (ls : Array Slot), Wd shM idsM G A S H → va_S A s.heap H locs → lv_has ls 6 [(0, .ref (G.2.2 0 0)), (1, .int x1), (2, .int x2), (3, .int x3), (4, .int x4)] → j_X9_gate_51 S x1 x2 x3 x4 = some out → W p l e rm_X9_gate s m args below meth c H locs 0 0 (MQ below (QI shM idsM G A out) args s 0 0 A) (F0 m 51 ls []) := by
  intro S x1 x2 x3 x4 H locs ls hW hS hl h
  unfold j_X9_gate_51 at h
  refine lv_iconst (v := 0) F.1 F.2.1 dX9_gate_51 (by decide) ?_
  exact w_X9_gate_52 F hr hlk hK out  _ _ _ _ _ _ _ _ _  hW hS hl h
set_option maxHeartbeats 4000000 in
set_option maxRecDepth 100000 in
theorem w_X9_gate_47 {p : Program} {l : Launch} {e : Env} {s : State} {m : MethodId} {args : Array Value} {below : List Frame} {meth : Method} {c : Code} {G : GT} {A : Nat → Prop} (F : CallFix p m c cX9_gate 6 s args wsX9_gate RX9) (hr : meth.sig.returnType = (some .int)) (hlk : meth.locks = false) (hK : va_K G.1 vwCl (tyl G) s) (out : Int32 × St) : ∀ (S : St) (x1 : Int32) (x2 : Int32) (x3 : Int32) (x4 : Int32) (H : Heap) (locs : List Loc) (ls : Array Slot), Wd shM idsM G A S H → va_S A s.heap H locs → lv_has ls 6 [(0, .ref (G.2.2 0 0)), (1, .int x1), (2, .int x2), (3, .int x3), (4, .int x4)] → j_X9_gate_47 S x1 x2 x3 x4 = some out → W p l e rm_X9_gate s m args below meth c H locs 0 0 (MQ below (QI shM idsM G A out) args s 0 0 A) (F0 m 47 ls []) := by
  intro S x1 x2 x3 x4 H locs ls hW hS hl h
  unfold j_X9_gate_47 at h
  refine lv_iconst (v := 1) F.1 F.2.1 dX9_gate_47 (by decide) ?_
  refine lv_goto (tgt := 52) F.1 F.2.1 dX9_gate_48 (by decide) ?_
  exact w_X9_gate_52 F hr hlk hK out  _ _ _ _ _ _ _ _ _  hW hS hl h
set_option maxHeartbeats 4000000 in
set_option maxRecDepth 100000 in
theorem w_X9_gate_32 {p : Program} {l : Launch} {e : Env} {s : State} {m : MethodId} {args : Array Value} {below : List Frame} {meth : Method} {c : Code} {G : GT} {A : Nat → Prop} (F : CallFix p m c cX9_gate 6 s args wsX9_gate RX9) (hr : meth.sig.returnType = (some .int)) (hlk : meth.locks = false) (hK : va_K G.1 vwCl (tyl G) s) (out : Int32 × St) : ∀ (S : St) (x1 : Int32) (x2 : Int32) (x3 : Int32) (x4 : Int32) (H : Heap) (locs : List Loc) (ls : Array Slot), Wd shM idsM G A S H → va_S A s.heap H locs → lv_has ls 6 [(0, .ref (G.2.2 0 0)), (1, .int x1), (2, .int x2), (3, .int x3), (4, .int x4)] → j_X9_gate_32 S x1 x2 x3 x4 = some out → W p l e rm_X9_gate s m args below meth c H locs 0 0 (MQ below (QI shM idsM G A out) args s 0 0 A) (F0 m 32 ls []) := by
  intro S x1 x2 x3 x4 H locs ls hW hS hl h
  unfold j_X9_gate_32 at h
  refine lv_iload_n F.1 F.2.1 dX9_gate_32 rfl (lv_at hl 1 rfl) ?_
  refine lv_bipush (v := 6) F.1 F.2.1 dX9_gate_33 (by decide) ?_
  refine lv_icmp_lt (tgt := 47) F.1 F.2.1 dX9_gate_35 (by decide) (fun c_14 => ?_) (fun c_14 => ?_)
  · have h := (if_pos c_14).symm.trans h
    exact w_X9_gate_47 F hr hlk hK out  _ _ _ _ _ _ _ _  hW hS hl h
  · have h := (if_neg c_14).symm.trans h
    refine lv_aload_n F.1 F.2.1 dX9_gate_38 rfl (lv_at hl 0 rfl) ?_
    refine lv_iload F.1 F.2.1 dX9_gate_39 (lv_at hl 4 rfl) ?_
    obtain ⟨r_16, S_17, hq_15, h⟩ := bi_some h
    refine rw_vi F hK hW hS [.int x4] (rest := []) (c_X9_isNode l G A x4 S (r_16, S_17) hq_15) (cwV 1 F.2.2.2.2 gX9_gate_X9_isNode rfl rfl rfl (by decide +kernel) ⟨Nat.le_of_ble_eq_true rfl, Nat.le_of_ble_eq_true rfl⟩) (rw_recv (q0 := 0) hK hW idM_0 rfl rfl) rfl hl.1 rfl (Nat.le_of_ble_eq_true rfl) dX9_gate_41 (fun H locs hW hS => ?_)
    refine lv_if_eq (tgt := 51) F.1 F.2.1 dX9_gate_44 (by decide) (fun c_18 => ?_) (fun c_18 => ?_)
    · have h := (if_pos c_18).symm.trans h
      exact w_X9_gate_51 F hr hlk hK out  _ _ _ _ _ _ _ _  hW hS hl h
    · have h := (if_neg c_18).symm.trans h
      exact w_X9_gate_47 F hr hlk hK out  _ _ _ _ _ _ _ _  hW hS hl h
set_option maxHeartbeats 4000000 in
set_option maxRecDepth 100000 in
theorem c_X9_gate (l : Launch) (G : GT) (A : Nat → Prop) (a0 : Int32) (a1 : Int32) (a2 : Int32) (a3 : Int32) (S : St) (out : Int32 × St) (h : f_X9_gate a0 a1 a2 a3 S = some out) : Met l yX9_gate wsX9_gate rm_X9_gate (va_Pc [.ref (G.2.2 0 0), .int a0, .int a1, .int a2, .int a3] (WD shM idsM G A S)) (QI shM idsM G A out) 0 0 A := by
  refine Met.ofW (cc := cX9_gate) (maxL := 6) (ret := (some .int)) (by decide) rfl ?_
  intro p e s m args below meth c s₁ B hml hv
  obtain ⟨rfl, hW, hK⟩ := hv
  have F : CallFix p m c cX9_gate 6 s _ wsX9_gate RX9 := ⟨B.exec, B.bytes, hml, findClass_of_methodNamed B.named, atoms_spec (ws := wsX9_gate) B.pre⟩
  have hr := B.returns
  have hlk := B.notSynchronized
  have hS : va_S A s.heap s.heap [] := va_S.rf
  have hl := lv_entry ([.ref (G.2.2 0 0), .int a0, .int a1, .int a2, .int a3]) (n := 6) (Nat.le_of_ble_eq_true rfl)
  rw [lg_entry_eq]
  generalize (lg_sl ([.ref (G.2.2 0 0), .int a0, .int a1, .int a2, .int a3]) ++ List.replicate (6 - (lg_sl ([.ref (G.2.2 0 0), .int a0, .int a1, .int a2, .int a3])).length) Slot.unset).toArray = ls at hl ⊢
  have hl : lv_has ls 6 [(0, .ref (G.2.2 0 0)), (1, .int a0), (2, .int a1), (3, .int a2), (4, .int a3)] := hl
  unfold f_X9_gate at h
  refine lv_iload_n F.1 F.2.1 dX9_gate_0 rfl (lv_at hl 1 rfl) ?_
  refine lv_i2l (v := a0.toInt64) F.1 F.2.1 dX9_gate_1 rfl ?_
  refine lv_lconst (v := 0) F.1 F.2.1 dX9_gate_2 (by decide) ?_
  refine lv_ldc2 (v := 6) F.1 F.2.1 F.2.2.2.1 (F.2.2.2.2 _ lk_X9_gate_154) dX9_gate_3 ?_
  obtain ⟨r_2, S_3, hq_1, h⟩ := bi_some h
  refine rw_si F hK hW hS [.long a0.toInt64, .long 0, .long 6] (rest := []) (c_X9_in l G A a0.toInt64 0 6 S (r_2, S_3) hq_1) (va_cwS 3 F.2.2.2.2 gX9_gate_X9_in rfl rfl rfl (by decide +kernel) ⟨Nat.le_of_ble_eq_true rfl, Nat.le_of_ble_eq_true rfl⟩) rfl hl.1 rfl (Nat.le_of_ble_eq_true rfl) dX9_gate_6 (fun H locs hW hS => ?_)
  refine lv_if_eq (tgt := 51) F.1 F.2.1 dX9_gate_9 (by decide) (fun c_4 => ?_) (fun c_4 => ?_)
  · have h := (if_pos c_4).symm.trans h
    exact w_X9_gate_51 F hr hlk hK out  _ _ _ _ _ _ _ _  hW hS hl h
  · have h := (if_neg c_4).symm.trans h
    refine lv_aload_n F.1 F.2.1 dX9_gate_12 rfl (lv_at hl 0 rfl) ?_
    refine lv_iload_n F.1 F.2.1 dX9_gate_13 rfl (lv_at hl 2 rfl) ?_
    obtain ⟨r_10, S_11, hq_9, h⟩ := bi_some h
    refine rw_vi F hK hW hS [.int a1] (rest := []) (c_X9_isNode l G A a1 S_3 (r_10, S_11) hq_9) (cwV 1 F.2.2.2.2 gX9_gate_X9_isNode rfl rfl rfl (by decide +kernel) ⟨Nat.le_of_ble_eq_true rfl, Nat.le_of_ble_eq_true rfl⟩) (rw_recv (q0 := 0) hK hW idM_0 rfl rfl) rfl hl.1 rfl (Nat.le_of_ble_eq_true rfl) dX9_gate_14 (fun H locs hW hS => ?_)
    refine lv_if_eq (tgt := 51) F.1 F.2.1 dX9_gate_17 (by decide) (fun c_12 => ?_) (fun c_12 => ?_)
    · have h := (if_pos c_12).symm.trans h
      exact w_X9_gate_51 F hr hlk hK out  _ _ _ _ _ _ _ _  hW hS hl h
    · have h := (if_neg c_12).symm.trans h
      refine lv_iload_n F.1 F.2.1 dX9_gate_20 rfl (lv_at hl 1 rfl) ?_
      refine lv_if_eq (tgt := 32) F.1 F.2.1 dX9_gate_21 (by decide) (fun c_13 => ?_) (fun c_13 => ?_)
      · have h := (if_pos c_13).symm.trans h
        exact w_X9_gate_32 F hr hlk hK out  _ _ _ _ _ _ _ _  hW hS hl h
      · have h := (if_neg c_13).symm.trans h
        refine lv_aload_n F.1 F.2.1 dX9_gate_24 rfl (lv_at hl 0 rfl) ?_
        refine lv_iload_n F.1 F.2.1 dX9_gate_25 rfl (lv_at hl 3 rfl) ?_
        obtain ⟨r_20, S_21, hq_19, h⟩ := bi_some h
        refine rw_vi F hK hW hS [.int a2] (rest := []) (c_X9_isNode l G A a2 S_11 (r_20, S_21) hq_19) (cwV 1 F.2.2.2.2 gX9_gate_X9_isNode rfl rfl rfl (by decide +kernel) ⟨Nat.le_of_ble_eq_true rfl, Nat.le_of_ble_eq_true rfl⟩) (rw_recv (q0 := 0) hK hW idM_0 rfl rfl) rfl hl.1 rfl (Nat.le_of_ble_eq_true rfl) dX9_gate_26 (fun H locs hW hS => ?_)
        refine lv_if_eq (tgt := 51) F.1 F.2.1 dX9_gate_29 (by decide) (fun c_22 => ?_) (fun c_22 => ?_)
        · have h := (if_pos c_22).symm.trans h
          exact w_X9_gate_51 F hr hlk hK out  _ _ _ _ _ _ _ _  hW hS hl h
        · have h := (if_neg c_22).symm.trans h
          exact w_X9_gate_32 F hr hlk hK out  _ _ _ _ _ _ _ _  hW hS hl h
/-! CellCoverModel.output(I)I -/
abbrev rm_X9_output : Room := { frames := 4, cells := 0, slots := 0, locals := 101 }
theorem in_X9_output_X9 : ∀ w ∈ wsX90, w ∈ wsX9_output := by decide +kernel
theorem lk_X9_output_160 : Cond.fieldLink RX9 160 "CellCoverModel" "outputs" "I" ∈ wsX9_output := by decide +kernel
theorem lk_X9_output_22 : Cond.fieldLink RX9 22 "CellCoverModel" "outputOf" "[I" ∈ wsX9_output := by decide +kernel
set_option maxHeartbeats 4000000 in
set_option maxRecDepth 100000 in
theorem c_X9_output (l : Launch) (G : GT) (A : Nat → Prop) (a0 : Int32) (S : St) (out : Int32 × St) (h : f_X9_output a0 S = some out) : Met l yX9_output wsX9_output rm_X9_output (va_Pc [.ref (G.2.2 0 0), .int a0] (WD shM idsM G A S)) (QI shM idsM G A out) 0 0 A := by
  refine Met.ofW (cc := cX9_output) (maxL := 2) (ret := (some .int)) (by decide) rfl ?_
  intro p e s m args below meth c s₁ B hml hv
  obtain ⟨rfl, hW, hK⟩ := hv
  have F : CallFix p m c cX9_output 2 s _ wsX9_output RX9 := ⟨B.exec, B.bytes, hml, findClass_of_methodNamed B.named, atoms_spec (ws := wsX9_output) B.pre⟩
  have hr := B.returns
  have hlk := B.notSynchronized
  have hS : va_S A s.heap s.heap [] := va_S.rf
  have hl := lv_entry ([.ref (G.2.2 0 0), .int a0]) (n := 2) (Nat.le_of_ble_eq_true rfl)
  rw [lg_entry_eq]
  generalize (lg_sl ([.ref (G.2.2 0 0), .int a0]) ++ List.replicate (2 - (lg_sl ([.ref (G.2.2 0 0), .int a0])).length) Slot.unset).toArray = ls at hl ⊢
  have hl : lv_has ls 2 [(0, .ref (G.2.2 0 0)), (1, .int a0)] := hl
  unfold f_X9_output at h
  refine lv_aload_n F.1 F.2.1 dX9_output_0 rfl (lv_at hl 0 rfl) ?_
  refine lv_iload_n F.1 F.2.1 dX9_output_1 rfl (lv_at hl 1 rfl) ?_
  obtain ⟨r_2, S_3, hq_1, h⟩ := bi_some h
  refine rw_vi F hK hW hS [.int a0] (rest := []) (c_X9_isNode l G A a0 S (r_2, S_3) hq_1) (cwV 1 F.2.2.2.2 gX9_output_X9_isNode rfl rfl rfl (by decide +kernel) ⟨Nat.le_of_ble_eq_true rfl, Nat.le_of_ble_eq_true rfl⟩) (rw_recv (q0 := 0) hK hW idM_0 rfl rfl) rfl hl.1 rfl (Nat.le_of_ble_eq_true rfl) dX9_output_2 (fun H locs hW hS => ?_)
  refine lv_if_ne (tgt := 10) F.1 F.2.1 dX9_output_5 (by decide) (fun c_4 => ?_) (fun c_4 => ?_)
  · have h := (if_neg c_4).symm.trans h
    refine lv_aload_n F.1 F.2.1 dX9_output_10 rfl (lv_at hl 0 rfl) ?_
    refine rw_get (q0 := 0) F hK hW idM_0 rfl rfl in_X9_output_X9 5 (by decide) lk_X9_output_160 rfl dX9_output_11 ?_
    refine lv_bipush (v := 8) F.1 F.2.1 dX9_output_14 (by decide) ?_
    refine lv_icmp_ne (tgt := 22) F.1 F.2.1 dX9_output_16 (by decide) (fun c_5 => ?_) (fun c_5 => ?_)
    · have h := (if_neg c_5).symm.trans h
      refine lv_aload_n F.1 F.2.1 dX9_output_22 rfl (lv_at hl 0 rfl) ?_
      refine rw_get (q0 := 0) F hK hW idM_0 rfl rfl in_X9_output_X9 6 (by decide) lk_X9_output_22 rfl dX9_output_23 ?_
      refine lv_aload_n F.1 F.2.1 dX9_output_26 rfl (lv_at hl 0 rfl) ?_
      refine rw_get (q0 := 0) F hK hW idM_0 rfl rfl in_X9_output_X9 5 (by decide) lk_X9_output_160 rfl dX9_output_27 ?_
      refine lv_iload_n F.1 F.2.1 dX9_output_30 rfl (lv_at hl 1 rfl) ?_
      obtain ⟨b_6, h⟩ := gd_some h
      refine rw_iast ndM (q0 := 5) F hK hW hS idM_5 (fun _ => rfl) (ix_in b_6) dX9_output_31 (fun H locs S_7 eS_7 hW hS => ?_)
      have h := lt_n eS_7 h
      refine lv_aload_n F.1 F.2.1 dX9_output_32 rfl (lv_at hl 0 rfl) ?_
      refine lv_dup F.1 F.2.1 dX9_output_33 rfl ?_
      refine rw_get (q0 := 0) F hK hW idM_0 rfl rfl in_X9_output_X9 5 (by decide) lk_X9_output_160 rfl dX9_output_34 ?_
      refine lv_iconst (v := 1) F.1 F.2.1 dX9_output_37 (by decide) ?_
      refine lv_iadd F.1 F.2.1 dX9_output_38 ?_
      refine rw_put ndM (q0 := 0) (x := (S_7 0 0 5) + 1) F hK hW hS idM_0 rfl rfl in_X9_output_X9 tyX9 tyX9_ok nmX9 5 (by decide) lk_X9_output_160 rfl (ty := .int) (by decide +kernel) rfl rfl (Nat.le_of_ble_eq_true rfl) rfl dX9_output_39 (fun H locs S_8 eS_8 hW hS => ?_)
      have h := lt_n eS_8 h
      refine lv_aload_n F.1 F.2.1 dX9_output_42 rfl (lv_at hl 0 rfl) ?_
      refine lv_iconst (v := 1) F.1 F.2.1 dX9_output_43 (by decide) ?_
      refine lv_iconst (v := 0) F.1 F.2.1 dX9_output_44 (by decide) ?_
      obtain ⟨q_9, hq_9, h⟩ := bv_some h
      refine rw_vv F hK hW hS [.int 1, .int 0] (rest := []) (c_X9_did l G A 1 0 S_8 q_9 hq_9) (cwV 2 F.2.2.2.2 gX9_output_X9_did rfl rfl rfl (by decide +kernel) ⟨Nat.le_of_ble_eq_true rfl, Nat.le_of_ble_eq_true rfl⟩) (rw_recv (q0 := 0) hK hW idM_0 rfl rfl) rfl hl.1 rfl (Nat.le_of_ble_eq_true rfl) dX9_output_45 (fun H locs hW hS => ?_)
      refine lv_aload_n F.1 F.2.1 dX9_output_48 rfl (lv_at hl 0 rfl) ?_
      obtain ⟨q_11, hq_11, h⟩ := bv_some h
      refine rw_vv F hK hW hS [] (rest := []) (c_X9_make l G A  q_9 q_11 hq_11) (cwV 0 F.2.2.2.2 gX9_output_X9_make rfl rfl rfl (by decide +kernel) ⟨Nat.le_of_ble_eq_true rfl, Nat.le_of_ble_eq_true rfl⟩) (rw_recv (q0 := 0) hK hW idM_0 rfl rfl) rfl hl.1 rfl (Nat.le_of_ble_eq_true rfl) dX9_output_49 (fun H locs hW hS => ?_)
      refine lv_aload_n F.1 F.2.1 dX9_output_52 rfl (lv_at hl 0 rfl) ?_
      refine rw_get (q0 := 0) F hK hW idM_0 rfl rfl in_X9_output_X9 5 (by decide) lk_X9_output_160 rfl dX9_output_53 ?_
      refine lv_iconst (v := 1) F.1 F.2.1 dX9_output_56 (by decide) ?_
      refine lv_isub F.1 F.2.1 dX9_output_57 ?_
      exact rw_ret F hr hlk hK hW hS h dX9_output_58
    · have h := (if_pos c_5).symm.trans h
      refine lv_bipush (v := -3) F.1 F.2.1 dX9_output_19 (by decide) ?_
      exact rw_ret F hr hlk hK hW hS h dX9_output_21
  · have h := (if_pos c_4).symm.trans h
    refine lv_iconst (v := -1) F.1 F.2.1 dX9_output_8 (by decide) ?_
    exact rw_ret F hr hlk hK hW hS h dX9_output_9
/-! CellCoverModel.isVertex(I)Z -/
abbrev rm_X9_isVertex : Room := { frames := 1, cells := 0, slots := 0, locals := 25 }
theorem in_X9_isVertex_X9 : ∀ w ∈ wsX90, w ∈ wsX9_isVertex := by decide +kernel
theorem lk_X9_isVertex_163 : Cond.fieldLink RX9 163 "CellCoverModel" "vertices" "I" ∈ wsX9_isVertex := by decide +kernel
set_option maxHeartbeats 4000000 in
set_option maxRecDepth 100000 in
theorem c_X9_isVertex (l : Launch) (G : GT) (A : Nat → Prop) (a0 : Int32) (S : St) (out : Int32 × St) (h : f_X9_isVertex a0 S = some out) : Met l yX9_isVertex wsX9_isVertex rm_X9_isVertex (va_Pc [.ref (G.2.2 0 0), .int a0] (WD shM idsM G A S)) (QI shM idsM G A out) 0 0 A := by
  refine Met.ofW (cc := cX9_isVertex) (maxL := 2) (ret := (some .boolean)) (by decide) rfl ?_
  intro p e s m args below meth c s₁ B hml hv
  obtain ⟨rfl, hW, hK⟩ := hv
  have F : CallFix p m c cX9_isVertex 2 s _ wsX9_isVertex RX9 := ⟨B.exec, B.bytes, hml, findClass_of_methodNamed B.named, atoms_spec (ws := wsX9_isVertex) B.pre⟩
  have hr := B.returns
  have hlk := B.notSynchronized
  have hS : va_S A s.heap s.heap [] := va_S.rf
  have hl := lv_entry ([.ref (G.2.2 0 0), .int a0]) (n := 2) (Nat.le_of_ble_eq_true rfl)
  rw [lg_entry_eq]
  generalize (lg_sl ([.ref (G.2.2 0 0), .int a0]) ++ List.replicate (2 - (lg_sl ([.ref (G.2.2 0 0), .int a0])).length) Slot.unset).toArray = ls at hl ⊢
  have hl : lv_has ls 2 [(0, .ref (G.2.2 0 0)), (1, .int a0)] := hl
  unfold f_X9_isVertex at h
  refine lv_iload_n F.1 F.2.1 dX9_isVertex_0 rfl (lv_at hl 1 rfl) ?_
  refine lv_i2l (v := a0.toInt64) F.1 F.2.1 dX9_isVertex_1 rfl ?_
  refine lv_lconst (v := 0) F.1 F.2.1 dX9_isVertex_2 (by decide) ?_
  refine lv_aload_n F.1 F.2.1 dX9_isVertex_3 rfl (lv_at hl 0 rfl) ?_
  refine rw_get (q0 := 0) F hK hW idM_0 rfl rfl in_X9_isVertex_X9 11 (by decide) lk_X9_isVertex_163 rfl dX9_isVertex_4 ?_
  refine lv_iconst (v := 1) F.1 F.2.1 dX9_isVertex_7 (by decide) ?_
  refine lv_isub F.1 F.2.1 dX9_isVertex_8 ?_
  refine lv_i2l (v := ((S 0 0 11) - 1).toInt64) F.1 F.2.1 dX9_isVertex_9 rfl ?_
  obtain ⟨r_2, S_3, hq_1, h⟩ := bi_some h
  refine rw_si F hK hW hS [.long a0.toInt64, .long 0, .long (((S 0 0 11) - 1).toInt64)] (rest := []) (c_X9_in l G A a0.toInt64 0 (((S 0 0 11) - 1).toInt64) S (r_2, S_3) hq_1) (va_cwS 3 F.2.2.2.2 gX9_isVertex_X9_in rfl rfl rfl (by decide +kernel) ⟨Nat.le_of_ble_eq_true rfl, Nat.le_of_ble_eq_true rfl⟩) rfl hl.1 rfl (Nat.le_of_ble_eq_true rfl) dX9_isVertex_10 (fun H locs hW hS => ?_)
  obtain ⟨b_4, h⟩ := gd_some h
  exact rw_retz F hr hlk hK hW hS b_4 h dX9_isVertex_13
/-! CellCoverModel.vertexOf(I)I -/
abbrev rm_X9_vertexOf : Room := { frames := 2, cells := 0, slots := 0, locals := 46 }
theorem in_X9_vertexOf_X9 : ∀ w ∈ wsX90, w ∈ wsX9_vertexOf := by decide +kernel
theorem lk_X9_vertexOf_40 : Cond.fieldLink RX9 40 "CellCoverModel" "vertexOf" "[I" ∈ wsX9_vertexOf := by decide +kernel
set_option maxHeartbeats 4000000 in
set_option maxRecDepth 100000 in
theorem w_X9_vertexOf_18 {p : Program} {l : Launch} {e : Env} {s : State} {m : MethodId} {args : Array Value} {below : List Frame} {meth : Method} {c : Code} {G : GT} {A : Nat → Prop} (F : CallFix p m c cX9_vertexOf 2 s args wsX9_vertexOf RX9) (hr : meth.sig.returnType = (some .int)) (hlk : meth.locks = false) (hK : va_K G.1 vwCl (tyl G) s) (out : Int32 × St) : ∀ (S : St) (y0 : Int32) (H : Heap) (locs : List Loc) (ls : Array Slot), Wd shM idsM G A S H → va_S A s.heap H locs → lv_has ls 2 [] → j_X9_vertexOf_18 S y0 = some out → W p l e rm_X9_vertexOf s m args below meth c H locs 0 0 (MQ below (QI shM idsM G A out) args s 0 0 A) (F0 m 18 ls [.int y0]) := by
  intro S y0 H locs ls hW hS hl h
  unfold j_X9_vertexOf_18 at h
  exact rw_ret F hr hlk hK hW hS h dX9_vertexOf_18
set_option maxHeartbeats 4000000 in
set_option maxRecDepth 100000 in
theorem c_X9_vertexOf (l : Launch) (G : GT) (A : Nat → Prop) (a0 : Int32) (S : St) (out : Int32 × St) (h : f_X9_vertexOf a0 S = some out) : Met l yX9_vertexOf wsX9_vertexOf rm_X9_vertexOf (va_Pc [.ref (G.2.2 0 0), .int a0] (WD shM idsM G A S)) (QI shM idsM G A out) 0 0 A := by
  refine Met.ofW (cc := cX9_vertexOf) (maxL := 2) (ret := (some .int)) (by decide) rfl ?_
  intro p e s m args below meth c s₁ B hml hv
  obtain ⟨rfl, hW, hK⟩ := hv
  have F : CallFix p m c cX9_vertexOf 2 s _ wsX9_vertexOf RX9 := ⟨B.exec, B.bytes, hml, findClass_of_methodNamed B.named, atoms_spec (ws := wsX9_vertexOf) B.pre⟩
  have hr := B.returns
  have hlk := B.notSynchronized
  have hS : va_S A s.heap s.heap [] := va_S.rf
  have hl := lv_entry ([.ref (G.2.2 0 0), .int a0]) (n := 2) (Nat.le_of_ble_eq_true rfl)
  rw [lg_entry_eq]
  generalize (lg_sl ([.ref (G.2.2 0 0), .int a0]) ++ List.replicate (2 - (lg_sl ([.ref (G.2.2 0 0), .int a0])).length) Slot.unset).toArray = ls at hl ⊢
  have hl : lv_has ls 2 [(0, .ref (G.2.2 0 0)), (1, .int a0)] := hl
  unfold f_X9_vertexOf at h
  refine lv_aload_n F.1 F.2.1 dX9_vertexOf_0 rfl (lv_at hl 0 rfl) ?_
  refine lv_iload_n F.1 F.2.1 dX9_vertexOf_1 rfl (lv_at hl 1 rfl) ?_
  obtain ⟨r_2, S_3, hq_1, h⟩ := bi_some h
  refine rw_vi F hK hW hS [.int a0] (rest := []) (c_X9_isNode l G A a0 S (r_2, S_3) hq_1) (cwV 1 F.2.2.2.2 gX9_vertexOf_X9_isNode rfl rfl rfl (by decide +kernel) ⟨Nat.le_of_ble_eq_true rfl, Nat.le_of_ble_eq_true rfl⟩) (rw_recv (q0 := 0) hK hW idM_0 rfl rfl) rfl hl.1 rfl (Nat.le_of_ble_eq_true rfl) dX9_vertexOf_2 (fun H locs hW hS => ?_)
  refine lv_if_eq (tgt := 17) F.1 F.2.1 dX9_vertexOf_5 (by decide) (fun c_4 => ?_) (fun c_4 => ?_)
  · have h := (if_pos c_4).symm.trans h
    refine lv_iconst (v := -1) F.1 F.2.1 dX9_vertexOf_17 (by decide) ?_
    exact w_X9_vertexOf_18 F hr hlk hK out  _ _ _ _ _  hW hS (lv_sub hl [] rfl) h
  · have h := (if_neg c_4).symm.trans h
    refine lv_aload_n F.1 F.2.1 dX9_vertexOf_8 rfl (lv_at hl 0 rfl) ?_
    refine rw_get (q0 := 0) F hK hW idM_0 rfl rfl in_X9_vertexOf_X9 15 (by decide) lk_X9_vertexOf_40 rfl dX9_vertexOf_9 ?_
    refine lv_iload_n F.1 F.2.1 dX9_vertexOf_12 rfl (lv_at hl 1 rfl) ?_
    obtain ⟨b_5, h⟩ := gd_some h
    refine rw_iald (q0 := 11) F hK hW idM_11 (fun _ => rfl) (ix_in b_5) dX9_vertexOf_13 ?_
    refine lv_topi (fun v_6 ev_6 => ?_)
    have h := lt_n ev_6 h
    refine lv_goto (tgt := 18) F.1 F.2.1 dX9_vertexOf_14 (by decide) ?_
    exact w_X9_vertexOf_18 F hr hlk hK out  _ _ _ _ _  hW hS (lv_sub hl [] rfl) h
