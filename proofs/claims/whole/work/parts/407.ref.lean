/-! CellCoverModel.run(J)I -/
abbrev rm_X9_run : Room := { frames := 1, cells := 0, slots := 0, locals := 23 }
theorem in_X9_run_X9 : ∀ w ∈ wsX90, w ∈ wsX9_run := by decide +kernel
theorem lk_X9_run_136 : Cond.fieldLink RX9 136 "CellCoverModel" "nodes" "I" ∈ wsX9_run := by decide +kernel
theorem lk_X9_run_7 : Cond.fieldLink RX9 7 "CellCoverModel" "nKind" "[I" ∈ wsX9_run := by decide +kernel
theorem lk_X9_run_122 : Cond.fieldLink RX9 122 "CellCoverModel" "value" "[I" ∈ wsX9_run := by decide +kernel
theorem lk_X9_run_13 : Cond.fieldLink RX9 13 "CellCoverModel" "nA" "[I" ∈ wsX9_run := by decide +kernel
theorem lk_X9_run_16 : Cond.fieldLink RX9 16 "CellCoverModel" "nB" "[I" ∈ wsX9_run := by decide +kernel
theorem lk_X9_run_19 : Cond.fieldLink RX9 19 "CellCoverModel" "nC" "[I" ∈ wsX9_run := by decide +kernel
theorem lk_X9_run_160 : Cond.fieldLink RX9 160 "CellCoverModel" "outputs" "I" ∈ wsX9_run := by decide +kernel
theorem lk_X9_run_22 : Cond.fieldLink RX9 22 "CellCoverModel" "outputOf" "[I" ∈ wsX9_run := by decide +kernel
set_option maxHeartbeats 4000000 in
set_option maxRecDepth 100000 in
theorem w_X9_run_126 {p : Program} {l : Launch} {e : Env} {s : State} {m : MethodId} {args : Array Value} {below : List Frame} {meth : Method} {c : Code} {G : GT} {A : Nat → Prop} (F : CallFix p m c cX9_run 6 s args wsX9_run RX9) (hr : meth.sig.returnType = (some .int)) (hlk : meth.locks = false) (hK : va_K G.1 vwCl (tyl G) s) (out : Int32 × St) (kb : St → Int64 → Int32 → Int32 → Option (Int32 × St)) (k132 : St → Option (Int32 × St)) (Kb : ∀ (S : St) (x1 : Int64) (x3 : Int32) (x4 : Int32) (H : Heap) (locs : List Loc) (ls : Array Slot), Wd shM idsM G A S H → va_S A s.heap H locs → lv_has ls 6 [(0, .ref (G.2.2 0 0)), (1, .long x1), (3, .int x3), (4, .int x4)] → kb S x1 x3 x4 = some out → W p l e rm_X9_run s m args below meth c H locs 0 0 (MQ below (QI shM idsM G A out) args s 0 0 A) (F0 m 5 ls [])) (K132 : ∀ (S : St) (H : Heap) (locs : List Loc) (ls : Array Slot), Wd shM idsM G A S H → va_S A s.heap H locs → lv_has ls 6 [(0, .ref (G.2.2 0 0))] → k132 S = some out → W p l e rm_X9_run s m args below meth c H locs 0 0 (MQ below (QI shM idsM G A out) args s 0 0 A) (F0 m 132 ls [])) : ∀ (S : St) (x1 : Int64) (x3 : Int32) (x4 : Int32) (H : Heap) (locs : List Loc) (ls : Array Slot), Wd shM idsM G A S H → va_S A s.heap H locs → lv_has ls 6 [(0, .ref (G.2.2 0 0)), (1, .long x1), (3, .int x3), (4, .int x4)] → j_X9_run_126 kb k132 S x1 x3 x4 = some out → W p l e rm_X9_run s m args below meth c H locs 0 0 (MQ below (QI shM idsM G A out) args s 0 0 A) (F0 m 126 ls []) := by
  intro S x1 x3 x4 H locs ls hW hS hl h
  unfold j_X9_run_126 at h
  obtain ⟨v_30, ev_30⟩ : ∃ y : Int32, y = x4 + 1 := ⟨_, rfl⟩
  have h := lt_n ev_30 h
  refine lv_iinc (v := v_30) (lv' := [(4, .int v_30), (0, .ref (G.2.2 0 0)), (1, .long x1), (3, .int x3)]) F.1 F.2.1 dX9_run_126 hl (k := 3) rfl (by rw [ev_30]; rfl) (by decide) rfl (fun ls hl => ?_)
  refine lv_goto (tgt := 5) F.1 F.2.1 dX9_run_129 (by decide) ?_
  exact Kb _ _ _ _ _ _ _  hW hS (lv_sub hl [1, 2, 3, 0] rfl) h
set_option maxHeartbeats 4000000 in
set_option maxRecDepth 100000 in
theorem w_X9_run_122 {p : Program} {l : Launch} {e : Env} {s : State} {m : MethodId} {args : Array Value} {below : List Frame} {meth : Method} {c : Code} {G : GT} {A : Nat → Prop} (F : CallFix p m c cX9_run 6 s args wsX9_run RX9) (hr : meth.sig.returnType = (some .int)) (hlk : meth.locks = false) (hK : va_K G.1 vwCl (tyl G) s) (out : Int32 × St) (kb : St → Int64 → Int32 → Int32 → Option (Int32 × St)) (k132 : St → Option (Int32 × St)) (Kb : ∀ (S : St) (x1 : Int64) (x3 : Int32) (x4 : Int32) (H : Heap) (locs : List Loc) (ls : Array Slot), Wd shM idsM G A S H → va_S A s.heap H locs → lv_has ls 6 [(0, .ref (G.2.2 0 0)), (1, .long x1), (3, .int x3), (4, .int x4)] → kb S x1 x3 x4 = some out → W p l e rm_X9_run s m args below meth c H locs 0 0 (MQ below (QI shM idsM G A out) args s 0 0 A) (F0 m 5 ls [])) (K132 : ∀ (S : St) (H : Heap) (locs : List Loc) (ls : Array Slot), Wd shM idsM G A S H → va_S A s.heap H locs → lv_has ls 6 [(0, .ref (G.2.2 0 0))] → k132 S = some out → W p l e rm_X9_run s m args below meth c H locs 0 0 (MQ below (QI shM idsM G A out) args s 0 0 A) (F0 m 132 ls [])) : ∀ (S : St) (x1 : Int64) (x3 : Int32) (x4 : Int32) (y1 : Int32) (y2 : Int32) (y3 : Int32) (y4 : Int32) (y5 : Int32) (H : Heap) (locs : List Loc) (ls : Array Slot), Wd shM idsM G A S H → va_S A s.heap H locs → lv_has ls 6 [(0, .ref (G.2.2 0 0)), (1, .long x1), (3, .int x3), (4, .int x4)] → j_X9_run_122 kb k132 S x1 x3 x4 y1 y2 y3 y4 y5 = some out → W p l e rm_X9_run s m args below meth c H locs 0 0 (MQ below (QI shM idsM G A out) args s 0 0 A) (F0 m 122 ls [.int y5, .int y4, .int y3, .int y2, .int y1, .ref (G.2.2 38 0)]) := by
  intro S x1 x3 x4 y1 y2 y3 y4 y5 H locs ls hW hS hl h
  unfold j_X9_run_122 at h
  obtain ⟨r_26, S_27, hq_25, h⟩ := bi_some h
  refine rw_si F hK hW hS [.int y2, .int y3, .int y4, .int y5] (rest := [.int y1, .ref (G.2.2 38 0)]) (c_X9_gateGives l G A y2 y3 y4 y5 S (r_26, S_27) hq_25) (va_cwS 4 F.2.2.2.2 gX9_run_X9_gateGives rfl rfl rfl (by decide +kernel) ⟨Nat.le_of_ble_eq_true rfl, Nat.le_of_ble_eq_true rfl⟩) rfl hl.1 rfl (Nat.le_of_ble_eq_true rfl) dX9_run_122 (fun H locs hW hS => ?_)
  obtain ⟨b_28, h⟩ := gd_some h
  refine rw_iast ndM (q0 := 38) F hK hW hS idM_38 (fun _ => rfl) (ix_in b_28) dX9_run_125 (fun H locs S_29 eS_29 hW hS => ?_)
  have h := lt_n eS_29 h
  exact w_X9_run_126 F hr hlk hK out kb k132 Kb K132 _ _ _ _ _ _ _  hW hS hl h
set_option maxHeartbeats 4000000 in
set_option maxRecDepth 100000 in
theorem w_X9_run_94 {p : Program} {l : Launch} {e : Env} {s : State} {m : MethodId} {args : Array Value} {below : List Frame} {meth : Method} {c : Code} {G : GT} {A : Nat → Prop} (F : CallFix p m c cX9_run 6 s args wsX9_run RX9) (hr : meth.sig.returnType = (some .int)) (hlk : meth.locks = false) (hK : va_K G.1 vwCl (tyl G) s) (out : Int32 × St) (kb : St → Int64 → Int32 → Int32 → Option (Int32 × St)) (k132 : St → Option (Int32 × St)) (Kb : ∀ (S : St) (x1 : Int64) (x3 : Int32) (x4 : Int32) (H : Heap) (locs : List Loc) (ls : Array Slot), Wd shM idsM G A S H → va_S A s.heap H locs → lv_has ls 6 [(0, .ref (G.2.2 0 0)), (1, .long x1), (3, .int x3), (4, .int x4)] → kb S x1 x3 x4 = some out → W p l e rm_X9_run s m args below meth c H locs 0 0 (MQ below (QI shM idsM G A out) args s 0 0 A) (F0 m 5 ls [])) (K132 : ∀ (S : St) (H : Heap) (locs : List Loc) (ls : Array Slot), Wd shM idsM G A S H → va_S A s.heap H locs → lv_has ls 6 [(0, .ref (G.2.2 0 0))] → k132 S = some out → W p l e rm_X9_run s m args below meth c H locs 0 0 (MQ below (QI shM idsM G A out) args s 0 0 A) (F0 m 132 ls [])) : ∀ (S : St) (x1 : Int64) (x3 : Int32) (x4 : Int32) (y1 : Int32) (y2 : Int32) (y3 : Int32) (y4 : Int32) (H : Heap) (locs : List Loc) (ls : Array Slot), Wd shM idsM G A S H → va_S A s.heap H locs → lv_has ls 6 [(0, .ref (G.2.2 0 0)), (1, .long x1), (3, .int x3), (4, .int x4)] → j_X9_run_94 kb k132 S x1 x3 x4 y1 y2 y3 y4 = some out → W p l e rm_X9_run s m args below meth c H locs 0 0 (MQ below (QI shM idsM G A out) args s 0 0 A) (F0 m 94 ls [.int y4, .int y3, .int y2, .int y1, .ref (G.2.2 38 0)]) := by
  intro S x1 x3 x4 y1 y2 y3 y4 H locs ls hW hS hl h
  unfold j_X9_run_94 at h
  refine lv_aload_n F.1 F.2.1 dX9_run_94 rfl (lv_at hl 0 rfl) ?_
  refine rw_get (q0 := 0) F hK hW idM_0 rfl rfl in_X9_run_X9 1 (by decide) lk_X9_run_7 rfl dX9_run_95 ?_
  refine lv_iload F.1 F.2.1 dX9_run_98 (lv_at hl 3 rfl) ?_
  obtain ⟨b_18, h⟩ := gd_some h
  refine rw_iald (q0 := 1) F hK hW idM_1 (fun _ => rfl) (ix_in b_18) dX9_run_100 ?_
  refine lv_topi (fun v_19 ev_19 => ?_)
  have h := lt_n ev_19 h
  refine lv_bipush (v := 6) F.1 F.2.1 dX9_run_101 (by decide) ?_
  refine lv_icmp_ge (tgt := 110) F.1 F.2.1 dX9_run_103 (by decide) (fun c_20 => ?_) (fun c_20 => ?_)
  · have h := (if_pos c_20).symm.trans h
    refine lv_aload_n F.1 F.2.1 dX9_run_110 rfl (lv_at hl 0 rfl) ?_
    refine rw_get (q0 := 0) F hK hW idM_0 rfl rfl in_X9_run_X9 51 (by decide) lk_X9_run_122 rfl dX9_run_111 ?_
    refine lv_aload_n F.1 F.2.1 dX9_run_114 rfl (lv_at hl 0 rfl) ?_
    refine rw_get (q0 := 0) F hK hW idM_0 rfl rfl in_X9_run_X9 4 (by decide) lk_X9_run_19 rfl dX9_run_115 ?_
    refine lv_iload F.1 F.2.1 dX9_run_118 (lv_at hl 3 rfl) ?_
    obtain ⟨b_21, h⟩ := gd_some h
    refine rw_iald (q0 := 4) F hK hW idM_4 (fun _ => rfl) (ix_in b_21) dX9_run_120 ?_
    refine lv_topi (fun v_22 ev_22 => ?_)
    have h := lt_n ev_22 h
    obtain ⟨b_23, h⟩ := gd_some h
    refine rw_iald (q0 := 38) F hK hW idM_38 (fun _ => rfl) (ix_in b_23) dX9_run_121 ?_
    refine lv_topi (fun v_24 ev_24 => ?_)
    have h := lt_n ev_24 h
    exact w_X9_run_122 F hr hlk hK out kb k132 Kb K132 _ _ _ _ _ _ _ _ _ _ _ _  hW hS hl h
  · have h := (if_neg c_20).symm.trans h
    refine lv_iconst (v := 0) F.1 F.2.1 dX9_run_106 (by decide) ?_
    refine lv_goto (tgt := 122) F.1 F.2.1 dX9_run_107 (by decide) ?_
    exact w_X9_run_122 F hr hlk hK out kb k132 Kb K132 _ _ _ _ _ _ _ _ _ _ _ _  hW hS hl h
set_option maxHeartbeats 4000000 in
set_option maxRecDepth 100000 in
theorem w_X9_run_5 {p : Program} {l : Launch} {e : Env} {s : State} {m : MethodId} {args : Array Value} {below : List Frame} {meth : Method} {c : Code} {G : GT} {A : Nat → Prop} (F : CallFix p m c cX9_run 6 s args wsX9_run RX9) (hr : meth.sig.returnType = (some .int)) (hlk : meth.locks = false) (hK : va_K G.1 vwCl (tyl G) s) (out : Int32 × St) (k132 : St → Option (Int32 × St)) (K132 : ∀ (S : St) (H : Heap) (locs : List Loc) (ls : Array Slot), Wd shM idsM G A S H → va_S A s.heap H locs → lv_has ls 6 [(0, .ref (G.2.2 0 0))] → k132 S = some out → W p l e rm_X9_run s m args below meth c H locs 0 0 (MQ below (QI shM idsM G A out) args s 0 0 A) (F0 m 132 ls [])) : ∀ n : Nat, ∀ (S : St) (x1 : Int64) (x3 : Int32) (x4 : Int32) (H : Heap) (locs : List Loc) (ls : Array Slot), Wd shM idsM G A S H → va_S A s.heap H locs → lv_has ls 6 [(0, .ref (G.2.2 0 0)), (1, .long x1), (3, .int x3), (4, .int x4)] → l_X9_run_5 k132 n S x1 x3 x4 = some out → W p l e rm_X9_run s m args below meth c H locs 0 0 (MQ below (QI shM idsM G A out) args s 0 0 A) (F0 m 5 ls []) := by
  intro n
  induction n with
  | zero =>
    intro S x1 x3 x4 H locs ls hW hS hl h
    cases h
  | succ n Kb =>
    generalize hkb : l_X9_run_5 k132 n = kb at Kb
    intro S x1 x3 x4 H locs ls hW hS hl h
    rw [show l_X9_run_5 k132 (n + 1) = b_X9_run_5 (l_X9_run_5 k132 n) k132 from rfl, hkb] at h
    unfold b_X9_run_5 at h
    refine lv_iload F.1 F.2.1 dX9_run_5 (lv_at hl 3 rfl) ?_
    refine lv_aload_n F.1 F.2.1 dX9_run_7 rfl (lv_at hl 0 rfl) ?_
    refine rw_get (q0 := 0) F hK hW idM_0 rfl rfl in_X9_run_X9 0 (by decide) lk_X9_run_136 rfl dX9_run_8 ?_
    refine lv_icmp_ge (tgt := 132) F.1 F.2.1 dX9_run_11 (by decide) (fun c_1 => ?_) (fun c_1 => ?_)
    · have h := (if_pos c_1).symm.trans h
      exact K132 _ _ _ _  hW hS (lv_sub hl [0] rfl) h
    · have h := (if_neg c_1).symm.trans h
      refine lv_aload_n F.1 F.2.1 dX9_run_14 rfl (lv_at hl 0 rfl) ?_
      refine rw_get (q0 := 0) F hK hW idM_0 rfl rfl in_X9_run_X9 1 (by decide) lk_X9_run_7 rfl dX9_run_15 ?_
      refine lv_iload F.1 F.2.1 dX9_run_18 (lv_at hl 3 rfl) ?_
      obtain ⟨b_2, h⟩ := gd_some h
      refine rw_iald (q0 := 1) F hK hW idM_1 (fun _ => rfl) (ix_in b_2) dX9_run_20 ?_
      refine lv_topi (fun v_3 ev_3 => ?_)
      have h := lt_n ev_3 h
      refine lv_if_ge (tgt := 43) F.1 F.2.1 dX9_run_21 (by decide) (fun c_4 => ?_) (fun c_4 => ?_)
      · have h := (if_pos c_4).symm.trans h
        refine lv_aload_n F.1 F.2.1 dX9_run_43 rfl (lv_at hl 0 rfl) ?_
        refine rw_get (q0 := 0) F hK hW idM_0 rfl rfl in_X9_run_X9 51 (by decide) lk_X9_run_122 rfl dX9_run_44 ?_
        refine lv_iload F.1 F.2.1 dX9_run_47 (lv_at hl 3 rfl) ?_
        refine lv_aload_n F.1 F.2.1 dX9_run_49 rfl (lv_at hl 0 rfl) ?_
        refine rw_get (q0 := 0) F hK hW idM_0 rfl rfl in_X9_run_X9 1 (by decide) lk_X9_run_7 rfl dX9_run_50 ?_
        refine lv_iload F.1 F.2.1 dX9_run_53 (lv_at hl 3 rfl) ?_
        obtain ⟨b_5, h⟩ := gd_some h
        refine rw_iald (q0 := 1) F hK hW idM_1 (fun _ => rfl) (ix_in b_5) dX9_run_55 ?_
        refine lv_topi (fun v_6 ev_6 => ?_)
        have h := lt_n ev_6 h
        refine lv_aload_n F.1 F.2.1 dX9_run_56 rfl (lv_at hl 0 rfl) ?_
        refine rw_get (q0 := 0) F hK hW idM_0 rfl rfl in_X9_run_X9 51 (by decide) lk_X9_run_122 rfl dX9_run_57 ?_
        refine lv_aload_n F.1 F.2.1 dX9_run_60 rfl (lv_at hl 0 rfl) ?_
        refine rw_get (q0 := 0) F hK hW idM_0 rfl rfl in_X9_run_X9 2 (by decide) lk_X9_run_13 rfl dX9_run_61 ?_
        refine lv_iload F.1 F.2.1 dX9_run_64 (lv_at hl 3 rfl) ?_
        obtain ⟨b_7, h⟩ := gd_some h
        refine rw_iald (q0 := 2) F hK hW idM_2 (fun _ => rfl) (ix_in b_7) dX9_run_66 ?_
        refine lv_topi (fun v_8 ev_8 => ?_)
        have h := lt_n ev_8 h
        obtain ⟨b_9, h⟩ := gd_some h
        refine rw_iald (q0 := 38) F hK hW idM_38 (fun _ => rfl) (ix_in b_9) dX9_run_67 ?_
        refine lv_topi (fun v_10 ev_10 => ?_)
        have h := lt_n ev_10 h
        refine lv_aload_n F.1 F.2.1 dX9_run_68 rfl (lv_at hl 0 rfl) ?_
        refine rw_get (q0 := 0) F hK hW idM_0 rfl rfl in_X9_run_X9 1 (by decide) lk_X9_run_7 rfl dX9_run_69 ?_
        refine lv_iload F.1 F.2.1 dX9_run_72 (lv_at hl 3 rfl) ?_
        obtain ⟨b_11, h⟩ := gd_some h
        refine rw_iald (q0 := 1) F hK hW idM_1 (fun _ => rfl) (ix_in b_11) dX9_run_74 ?_
        refine lv_topi (fun v_12 ev_12 => ?_)
        have h := lt_n ev_12 h
        refine lv_if_ne (tgt := 82) F.1 F.2.1 dX9_run_75 (by decide) (fun c_13 => ?_) (fun c_13 => ?_)
        · have h := (if_neg c_13).symm.trans h
          refine lv_aload_n F.1 F.2.1 dX9_run_82 rfl (lv_at hl 0 rfl) ?_
          refine rw_get (q0 := 0) F hK hW idM_0 rfl rfl in_X9_run_X9 51 (by decide) lk_X9_run_122 rfl dX9_run_83 ?_
          refine lv_aload_n F.1 F.2.1 dX9_run_86 rfl (lv_at hl 0 rfl) ?_
          refine rw_get (q0 := 0) F hK hW idM_0 rfl rfl in_X9_run_X9 3 (by decide) lk_X9_run_16 rfl dX9_run_87 ?_
          refine lv_iload F.1 F.2.1 dX9_run_90 (lv_at hl 3 rfl) ?_
          obtain ⟨b_14, h⟩ := gd_some h
          refine rw_iald (q0 := 3) F hK hW idM_3 (fun _ => rfl) (ix_in b_14) dX9_run_92 ?_
          refine lv_topi (fun v_15 ev_15 => ?_)
          have h := lt_n ev_15 h
          obtain ⟨b_16, h⟩ := gd_some h
          refine rw_iald (q0 := 38) F hK hW idM_38 (fun _ => rfl) (ix_in b_16) dX9_run_93 ?_
          refine lv_topi (fun v_17 ev_17 => ?_)
          have h := lt_n ev_17 h
          exact w_X9_run_94 F hr hlk hK out kb k132 Kb K132 _ _ _ _ _ _ _ _ _ _ _  hW hS hl h
        · have h := (if_pos c_13).symm.trans h
          refine lv_iconst (v := 0) F.1 F.2.1 dX9_run_78 (by decide) ?_
          refine lv_goto (tgt := 94) F.1 F.2.1 dX9_run_79 (by decide) ?_
          exact w_X9_run_94 F hr hlk hK out kb k132 Kb K132 _ _ _ _ _ _ _ _ _ _ _  hW hS hl h
      · have h := (if_neg c_4).symm.trans h
        refine lv_aload_n F.1 F.2.1 dX9_run_24 rfl (lv_at hl 0 rfl) ?_
        refine rw_get (q0 := 0) F hK hW idM_0 rfl rfl in_X9_run_X9 51 (by decide) lk_X9_run_122 rfl dX9_run_25 ?_
        refine lv_iload F.1 F.2.1 dX9_run_28 (lv_at hl 3 rfl) ?_
        refine lv_lload_n F.1 F.2.1 dX9_run_30 rfl (lv_at hl 1 rfl) ?_
        refine lv_iload_n F.1 F.2.1 dX9_run_31 rfl (lv_at hl 2 rfl) ?_
        refine lv_lshr (v := x1 >>> (x3.toInt64 &&& 63)) F.1 F.2.1 dX9_run_32 rfl ?_
        refine lv_lconst (v := 1) F.1 F.2.1 dX9_run_33 (by decide) ?_
        refine lv_land F.1 F.2.1 dX9_run_34 ?_
        refine lv_l2i (v := ((x1 >>> (x3.toInt64 &&& 63)) &&& 1).toInt32) F.1 F.2.1 dX9_run_35 rfl ?_
        obtain ⟨b_31, h⟩ := gd_some h
        refine rw_iast ndM (q0 := 38) F hK hW hS idM_38 (fun _ => rfl) (ix_in b_31) dX9_run_36 (fun H locs S_32 eS_32 hW hS => ?_)
        have h := lt_n eS_32 h
        obtain ⟨v_33, ev_33⟩ : ∃ y : Int32, y = x3 + 1 := ⟨_, rfl⟩
        have h := lt_n ev_33 h
        refine lv_iinc (v := v_33) (lv' := [(3, .int v_33), (0, .ref (G.2.2 0 0)), (1, .long x1), (4, .int x4)]) F.1 F.2.1 dX9_run_37 hl (k := 2) rfl (by rw [ev_33]; rfl) (by decide) rfl (fun ls hl => ?_)
        refine lv_goto (tgt := 126) F.1 F.2.1 dX9_run_40 (by decide) ?_
        exact w_X9_run_126 F hr hlk hK out kb k132 Kb K132 _ _ _ _ _ _ _  hW hS (lv_sub hl [1, 2, 0, 3] rfl) h
set_option maxHeartbeats 4000000 in
set_option maxRecDepth 100000 in
theorem w_X9_run_138 {p : Program} {l : Launch} {e : Env} {s : State} {m : MethodId} {args : Array Value} {below : List Frame} {meth : Method} {c : Code} {G : GT} {A : Nat → Prop} (F : CallFix p m c cX9_run 6 s args wsX9_run RX9) (hr : meth.sig.returnType = (some .int)) (hlk : meth.locks = false) (hK : va_K G.1 vwCl (tyl G) s) (out : Int32 × St) : ∀ n : Nat, ∀ (S : St) (x4 : Int32) (x5 : Int32) (H : Heap) (locs : List Loc) (ls : Array Slot), Wd shM idsM G A S H → va_S A s.heap H locs → lv_has ls 6 [(0, .ref (G.2.2 0 0)), (4, .int x4), (5, .int x5)] → l_X9_run_138 n S x4 x5 = some out → W p l e rm_X9_run s m args below meth c H locs 0 0 (MQ below (QI shM idsM G A out) args s 0 0 A) (F0 m 138 ls []) := by
  intro n
  induction n with
  | zero =>
    intro S x4 x5 H locs ls hW hS hl h
    cases h
  | succ n Kb =>
    generalize hkb : l_X9_run_138 n = kb at Kb
    intro S x4 x5 H locs ls hW hS hl h
    rw [show l_X9_run_138 (n + 1) = b_X9_run_138 (l_X9_run_138 n) from rfl, hkb] at h
    unfold b_X9_run_138 at h
    refine lv_iload F.1 F.2.1 dX9_run_138 (lv_at hl 2 rfl) ?_
    refine lv_aload_n F.1 F.2.1 dX9_run_140 rfl (lv_at hl 0 rfl) ?_
    refine rw_get (q0 := 0) F hK hW idM_0 rfl rfl in_X9_run_X9 5 (by decide) lk_X9_run_160 rfl dX9_run_141 ?_
    refine lv_icmp_ge (tgt := 173) F.1 F.2.1 dX9_run_144 (by decide) (fun c_34 => ?_) (fun c_34 => ?_)
    · have h := (if_pos c_34).symm.trans h
      refine lv_iload F.1 F.2.1 dX9_run_173 (lv_at hl 1 rfl) ?_
      exact rw_ret F hr hlk hK hW hS h dX9_run_175
    · have h := (if_neg c_34).symm.trans h
      refine lv_iload F.1 F.2.1 dX9_run_147 (lv_at hl 1 rfl) ?_
      refine lv_aload_n F.1 F.2.1 dX9_run_149 rfl (lv_at hl 0 rfl) ?_
      refine rw_get (q0 := 0) F hK hW idM_0 rfl rfl in_X9_run_X9 51 (by decide) lk_X9_run_122 rfl dX9_run_150 ?_
      refine lv_aload_n F.1 F.2.1 dX9_run_153 rfl (lv_at hl 0 rfl) ?_
      refine rw_get (q0 := 0) F hK hW idM_0 rfl rfl in_X9_run_X9 6 (by decide) lk_X9_run_22 rfl dX9_run_154 ?_
      refine lv_iload F.1 F.2.1 dX9_run_157 (lv_at hl 2 rfl) ?_
      obtain ⟨b_35, h⟩ := gd_some h
      refine rw_iald (q0 := 5) F hK hW idM_5 (fun _ => rfl) (ix_in b_35) dX9_run_159 ?_
      refine lv_topi (fun v_36 ev_36 => ?_)
      have h := lt_n ev_36 h
      obtain ⟨b_37, h⟩ := gd_some h
      refine rw_iald (q0 := 38) F hK hW idM_38 (fun _ => rfl) (ix_in b_37) dX9_run_160 ?_
      refine lv_topi (fun v_38 ev_38 => ?_)
      have h := lt_n ev_38 h
      refine lv_iload F.1 F.2.1 dX9_run_161 (lv_at hl 2 rfl) ?_
      refine lv_ishl F.1 F.2.1 dX9_run_163 ?_
      refine lv_ior F.1 F.2.1 dX9_run_164 ?_
      refine lv_topi (fun v_39 ev_39 => ?_)
      have h := lt_n ev_39 h
      refine lv_istore (lv' := [(4, .int v_39), (0, .ref (G.2.2 0 0)), (5, .int x5)]) F.1 F.2.1 dX9_run_165 hl (by decide) rfl (fun ls hl => ?_)
      obtain ⟨v_40, ev_40⟩ : ∃ y : Int32, y = x5 + 1 := ⟨_, rfl⟩
      have h := lt_n ev_40 h
      refine lv_iinc (v := v_40) (lv' := [(5, .int v_40), (4, .int v_39), (0, .ref (G.2.2 0 0))]) F.1 F.2.1 dX9_run_167 hl (k := 2) rfl (by rw [ev_40]; rfl) (by decide) rfl (fun ls hl => ?_)
      refine lv_goto (tgt := 138) F.1 F.2.1 dX9_run_170 (by decide) ?_
      exact Kb _ _ _ _ _ _  hW hS (lv_sub hl [2, 1, 0] rfl) h
set_option maxHeartbeats 4000000 in
set_option maxRecDepth 100000 in
theorem c_X9_run (l : Launch) (G : GT) (A : Nat → Prop) (a0 : Int64) (S : St) (out : Int32 × St) (h : f_X9_run a0 S = some out) : Met l yX9_run wsX9_run rm_X9_run (va_Pc [.ref (G.2.2 0 0), .long a0] (WD shM idsM G A S)) (QI shM idsM G A out) 0 0 A := by
  refine Met.ofW (cc := cX9_run) (maxL := 6) (ret := (some .int)) (by decide) rfl ?_
  intro p e s m args below meth c s₁ B hml hv
  obtain ⟨rfl, hW, hK⟩ := hv
  have F : CallFix p m c cX9_run 6 s _ wsX9_run RX9 := ⟨B.exec, B.bytes, hml, findClass_of_methodNamed B.named, atoms_spec (ws := wsX9_run) B.pre⟩
  have hr := B.returns
  have hlk := B.notSynchronized
  have hS : va_S A s.heap s.heap [] := va_S.rf
  have hl := lv_entry ([.ref (G.2.2 0 0), .long a0]) (n := 6) (Nat.le_of_ble_eq_true rfl)
  rw [lg_entry_eq]
  generalize (lg_sl ([.ref (G.2.2 0 0), .long a0]) ++ List.replicate (6 - (lg_sl ([.ref (G.2.2 0 0), .long a0])).length) Slot.unset).toArray = ls at hl ⊢
  have hl : lv_has ls 6 [(0, .ref (G.2.2 0 0)), (1, .long a0)] := hl
  unfold f_X9_run at h
  refine lv_iconst (v := 0) F.1 F.2.1 dX9_run_0 (by decide) ?_
  refine lv_istore_n (lv' := [(3, .int 0), (0, .ref (G.2.2 0 0)), (1, .long a0)]) F.1 F.2.1 dX9_run_1 rfl hl (by decide) rfl (fun ls hl => ?_)
  refine lv_iconst (v := 0) F.1 F.2.1 dX9_run_2 (by decide) ?_
  refine lv_istore (lv' := [(4, .int 0), (3, .int 0), (0, .ref (G.2.2 0 0)), (1, .long a0)]) F.1 F.2.1 dX9_run_3 hl (by decide) rfl (fun ls hl => ?_)
  refine w_X9_run_5 F hr hlk hK out _ ?_ 5000 _ _ _ _ _ _ _  hW hS (lv_sub hl [2, 3, 1, 0] rfl) h
  · intro S H locs ls hW hS hl h
    refine lv_iconst (v := 0) F.1 F.2.1 dX9_run_132 (by decide) ?_
    refine lv_istore (lv' := [(4, .int 0), (0, .ref (G.2.2 0 0))]) F.1 F.2.1 dX9_run_133 hl (by decide) rfl (fun ls hl => ?_)
    refine lv_iconst (v := 0) F.1 F.2.1 dX9_run_135 (by decide) ?_
    refine lv_istore (lv' := [(5, .int 0), (4, .int 0), (0, .ref (G.2.2 0 0))]) F.1 F.2.1 dX9_run_136 hl (by decide) rfl (fun ls hl => ?_)
    refine w_X9_run_138 F hr hlk hK out   5000 _ _ _ _ _ _  hW hS (lv_sub hl [2, 1, 0] rfl) h
/-! CellCoverModel.cellGives(II)I -/
abbrev rm_X9_cellGives : Room := { frames := 0, cells := 0, slots := 0, locals := 0 }
theorem in_X9_cellGives_X9 : ∀ w ∈ wsX90, w ∈ wsX9_cellGives := by decide +kernel
theorem lk_X9_cellGives_65 : Cond.fieldLink RX9 65 "CellCoverModel" "size" "[I" ∈ wsX9_cellGives := by decide +kernel
theorem lk_X9_cellGives_125 : Cond.fieldLink RX9 125 "CellCoverModel" "gives" "[I" ∈ wsX9_cellGives := by decide +kernel
theorem lk_X9_cellGives_74 : Cond.fieldLink RX9 74 "CellCoverModel" "sign" "[I" ∈ wsX9_cellGives := by decide +kernel
theorem lk_X9_cellGives_80 : Cond.fieldLink RX9 80 "CellCoverModel" "left" "[I" ∈ wsX9_cellGives := by decide +kernel
theorem lk_X9_cellGives_83 : Cond.fieldLink RX9 83 "CellCoverModel" "right" "[I" ∈ wsX9_cellGives := by decide +kernel
theorem lk_X9_cellGives_77 : Cond.fieldLink RX9 77 "CellCoverModel" "letter" "[I" ∈ wsX9_cellGives := by decide +kernel
set_option maxHeartbeats 4000000 in
set_option maxRecDepth 100000 in
theorem w_X9_cellGives_115 {p : Program} {l : Launch} {e : Env} {s : State} {m : MethodId} {args : Array Value} {below : List Frame} {meth : Method} {c : Code} {G : GT} {A : Nat → Prop} (F : CallFix p m c cX9_cellGives 6 s args wsX9_cellGives RX9) (hr : meth.sig.returnType = (some .int)) (hlk : meth.locks = false) (hK : va_K G.1 vwCl (tyl G) s) (out : Int32 × St) (kb : St → Int32 → Int32 → Int32 → Option (Int32 × St)) (Kb : ∀ (S : St) (x2 : Int32) (x3 : Int32) (x4 : Int32) (H : Heap) (locs : List Loc) (ls : Array Slot), Wd shM idsM G A S H → va_S A s.heap H locs → lv_has ls 6 [(0, .ref (G.2.2 0 0)), (2, .int x2), (3, .int x3), (4, .int x4)] → kb S x2 x3 x4 = some out → W p l e rm_X9_cellGives s m args below meth c H locs 0 0 (MQ below (QI shM idsM G A out) args s 0 0 A) (F0 m 15 ls [])) : ∀ (S : St) (x2 : Int32) (x3 : Int32) (x4 : Int32) (y1 : Int32) (y2 : Int32) (H : Heap) (locs : List Loc) (ls : Array Slot), Wd shM idsM G A S H → va_S A s.heap H locs → lv_has ls 6 [(0, .ref (G.2.2 0 0)), (2, .int x2), (3, .int x3), (4, .int x4)] → j_X9_cellGives_115 kb S x2 x3 x4 y1 y2 = some out → W p l e rm_X9_cellGives s m args below meth c H locs 0 0 (MQ below (QI shM idsM G A out) args s 0 0 A) (F0 m 115 ls [.int y2, .int y1, .ref (G.2.2 39 0)]) := by
  intro S x2 x3 x4 y1 y2 H locs ls hW hS hl h
  unfold j_X9_cellGives_115 at h
  obtain ⟨b_20, h⟩ := gd_some h
  refine rw_iast ndM (q0 := 39) F hK hW hS idM_39 (fun _ => rfl) (ix_in b_20) dX9_cellGives_115 (fun H locs S_21 eS_21 hW hS => ?_)
  have h := lt_n eS_21 h
  obtain ⟨v_22, ev_22⟩ : ∃ y : Int32, y = x4 + (-1) := ⟨_, rfl⟩
  have h := lt_n ev_22 h
  refine lv_iinc (v := v_22) (lv' := [(4, .int v_22), (0, .ref (G.2.2 0 0)), (2, .int x2), (3, .int x3)]) F.1 F.2.1 dX9_cellGives_116 hl (k := 3) rfl (by rw [ev_22]; rfl) (by decide) rfl (fun ls hl => ?_)
  refine lv_goto (tgt := 15) F.1 F.2.1 dX9_cellGives_119 (by decide) ?_
  exact Kb _ _ _ _ _ _ _  hW hS (lv_sub hl [1, 2, 3, 0] rfl) h
set_option maxHeartbeats 4000000 in
set_option maxRecDepth 100000 in
theorem w_X9_cellGives_15 {p : Program} {l : Launch} {e : Env} {s : State} {m : MethodId} {args : Array Value} {below : List Frame} {meth : Method} {c : Code} {G : GT} {A : Nat → Prop} (F : CallFix p m c cX9_cellGives 6 s args wsX9_cellGives RX9) (hr : meth.sig.returnType = (some .int)) (hlk : meth.locks = false) (hK : va_K G.1 vwCl (tyl G) s) (out : Int32 × St) : ∀ n : Nat, ∀ (S : St) (x2 : Int32) (x3 : Int32) (x4 : Int32) (H : Heap) (locs : List Loc) (ls : Array Slot), Wd shM idsM G A S H → va_S A s.heap H locs → lv_has ls 6 [(0, .ref (G.2.2 0 0)), (2, .int x2), (3, .int x3), (4, .int x4)] → l_X9_cellGives_15 n S x2 x3 x4 = some out → W p l e rm_X9_cellGives s m args below meth c H locs 0 0 (MQ below (QI shM idsM G A out) args s 0 0 A) (F0 m 15 ls []) := by
  intro n
  induction n with
  | zero =>
    intro S x2 x3 x4 H locs ls hW hS hl h
    cases h
  | succ n Kb =>
    generalize hkb : l_X9_cellGives_15 n = kb at Kb
    intro S x2 x3 x4 H locs ls hW hS hl h
    rw [show l_X9_cellGives_15 (n + 1) = b_X9_cellGives_15 (l_X9_cellGives_15 n) from rfl, hkb] at h
    unfold b_X9_cellGives_15 at h
    refine lv_iload F.1 F.2.1 dX9_cellGives_15 (lv_at hl 3 rfl) ?_
    refine lv_if_lt (tgt := 122) F.1 F.2.1 dX9_cellGives_17 (by decide) (fun c_5 => ?_) (fun c_5 => ?_)
    · have h := (if_pos c_5).symm.trans h
      refine lv_aload_n F.1 F.2.1 dX9_cellGives_122 rfl (lv_at hl 0 rfl) ?_
      refine rw_get (q0 := 0) F hK hW idM_0 rfl rfl in_X9_cellGives_X9 52 (by decide) lk_X9_cellGives_125 rfl dX9_cellGives_123 ?_
      refine lv_iconst (v := 0) F.1 F.2.1 dX9_cellGives_126 (by decide) ?_
      obtain ⟨b_6, h⟩ := gd_some h
      refine rw_iald (q0 := 39) F hK hW idM_39 (fun _ => rfl) (ix_in b_6) dX9_cellGives_127 ?_
      refine lv_topi (fun v_7 ev_7 => ?_)
      have h := lt_n ev_7 h
      exact rw_ret F hr hlk hK hW hS h dX9_cellGives_128
    · have h := (if_neg c_5).symm.trans h
      refine lv_aload_n F.1 F.2.1 dX9_cellGives_20 rfl (lv_at hl 0 rfl) ?_
      refine rw_get (q0 := 0) F hK hW idM_0 rfl rfl in_X9_cellGives_X9 29 (by decide) lk_X9_cellGives_74 rfl dX9_cellGives_21 ?_
      refine lv_iload_n F.1 F.2.1 dX9_cellGives_24 rfl (lv_at hl 2 rfl) ?_
      refine lv_iload F.1 F.2.1 dX9_cellGives_25 (lv_at hl 3 rfl) ?_
      refine lv_iadd F.1 F.2.1 dX9_cellGives_27 ?_
      obtain ⟨b_8, h⟩ := gd_some h
      refine rw_iald (q0 := 22) F hK hW idM_22 (fun _ => rfl) (ix_in b_8) dX9_cellGives_28 ?_
      refine lv_topi (fun v_9 ev_9 => ?_)
      have h := lt_n ev_9 h
      refine lv_istore (lv' := [(5, .int v_9), (0, .ref (G.2.2 0 0)), (2, .int x2), (3, .int x3), (4, .int x4)]) F.1 F.2.1 dX9_cellGives_29 hl (by decide) rfl (fun ls hl => ?_)
      refine lv_aload_n F.1 F.2.1 dX9_cellGives_31 rfl (lv_at hl 1 rfl) ?_
      refine rw_get (q0 := 0) F hK hW idM_0 rfl rfl in_X9_cellGives_X9 52 (by decide) lk_X9_cellGives_125 rfl dX9_cellGives_32 ?_
      refine lv_iload F.1 F.2.1 dX9_cellGives_35 (lv_at hl 4 rfl) ?_
      refine lv_iload F.1 F.2.1 dX9_cellGives_37 (lv_at hl 0 rfl) ?_
      refine lv_iconst (v := 3) F.1 F.2.1 dX9_cellGives_39 (by decide) ?_
      refine lv_icmp_ne (tgt := 59) F.1 F.2.1 dX9_cellGives_40 (by decide) (fun c_10 => ?_) (fun c_10 => ?_)
      · have h := (if_neg c_10).symm.trans h
        refine lv_iload F.1 F.2.1 dX9_cellGives_59 (lv_at hl 0 rfl) ?_
        refine lv_iconst (v := 1) F.1 F.2.1 dX9_cellGives_61 (by decide) ?_
        refine lv_icmp_ne (tgt := 84) F.1 F.2.1 dX9_cellGives_62 (by decide) (fun c_11 => ?_) (fun c_11 => ?_)
        · have h := (if_neg c_11).symm.trans h
          refine lv_iconst (v := 1) F.1 F.2.1 dX9_cellGives_84 (by decide) ?_
          refine lv_aload_n F.1 F.2.1 dX9_cellGives_85 rfl (lv_at hl 1 rfl) ?_
          refine rw_get (q0 := 0) F hK hW idM_0 rfl rfl in_X9_cellGives_X9 52 (by decide) lk_X9_cellGives_125 rfl dX9_cellGives_86 ?_
          refine lv_aload_n F.1 F.2.1 dX9_cellGives_89 rfl (lv_at hl 1 rfl) ?_
          refine rw_get (q0 := 0) F hK hW idM_0 rfl rfl in_X9_cellGives_X9 31 (by decide) lk_X9_cellGives_80 rfl dX9_cellGives_90 ?_
          refine lv_iload_n F.1 F.2.1 dX9_cellGives_93 rfl (lv_at hl 3 rfl) ?_
          refine lv_iload F.1 F.2.1 dX9_cellGives_94 (lv_at hl 4 rfl) ?_
          refine lv_iadd F.1 F.2.1 dX9_cellGives_96 ?_
          obtain ⟨b_12, h⟩ := gd_some h
          refine rw_iald (q0 := 24) F hK hW idM_24 (fun _ => rfl) (ix_in b_12) dX9_cellGives_97 ?_
          refine lv_topi (fun v_13 ev_13 => ?_)
          have h := lt_n ev_13 h
          obtain ⟨b_14, h⟩ := gd_some h
          refine rw_iald (q0 := 39) F hK hW idM_39 (fun _ => rfl) (ix_in b_14) dX9_cellGives_98 ?_
          refine lv_topi (fun v_15 ev_15 => ?_)
          have h := lt_n ev_15 h
          refine lv_aload_n F.1 F.2.1 dX9_cellGives_99 rfl (lv_at hl 1 rfl) ?_
          refine rw_get (q0 := 0) F hK hW idM_0 rfl rfl in_X9_cellGives_X9 52 (by decide) lk_X9_cellGives_125 rfl dX9_cellGives_100 ?_
          refine lv_aload_n F.1 F.2.1 dX9_cellGives_103 rfl (lv_at hl 1 rfl) ?_
          refine rw_get (q0 := 0) F hK hW idM_0 rfl rfl in_X9_cellGives_X9 32 (by decide) lk_X9_cellGives_83 rfl dX9_cellGives_104 ?_
          refine lv_iload_n F.1 F.2.1 dX9_cellGives_107 rfl (lv_at hl 3 rfl) ?_
          refine lv_iload F.1 F.2.1 dX9_cellGives_108 (lv_at hl 4 rfl) ?_
          refine lv_iadd F.1 F.2.1 dX9_cellGives_110 ?_
          obtain ⟨b_16, h⟩ := gd_some h
          refine rw_iald (q0 := 25) F hK hW idM_25 (fun _ => rfl) (ix_in b_16) dX9_cellGives_111 ?_
          refine lv_topi (fun v_17 ev_17 => ?_)
          have h := lt_n ev_17 h
          obtain ⟨b_18, h⟩ := gd_some h
          refine rw_iald (q0 := 39) F hK hW idM_39 (fun _ => rfl) (ix_in b_18) dX9_cellGives_112 ?_
          refine lv_topi (fun v_19 ev_19 => ?_)
          have h := lt_n ev_19 h
          refine lv_iand F.1 F.2.1 dX9_cellGives_113 ?_
          refine lv_isub F.1 F.2.1 dX9_cellGives_114 ?_
          exact w_X9_cellGives_115 F hr hlk hK out kb Kb _ _ _ _ _ _ _ _ _  hW hS (lv_sub hl [1, 2, 3, 4] rfl) h
        · have h := (if_pos c_11).symm.trans h
          refine lv_iconst (v := 1) F.1 F.2.1 dX9_cellGives_65 (by decide) ?_
          refine lv_aload_n F.1 F.2.1 dX9_cellGives_66 rfl (lv_at hl 1 rfl) ?_
          refine rw_get (q0 := 0) F hK hW idM_0 rfl rfl in_X9_cellGives_X9 52 (by decide) lk_X9_cellGives_125 rfl dX9_cellGives_67 ?_
          refine lv_aload_n F.1 F.2.1 dX9_cellGives_70 rfl (lv_at hl 1 rfl) ?_
          refine rw_get (q0 := 0) F hK hW idM_0 rfl rfl in_X9_cellGives_X9 31 (by decide) lk_X9_cellGives_80 rfl dX9_cellGives_71 ?_
          refine lv_iload_n F.1 F.2.1 dX9_cellGives_74 rfl (lv_at hl 3 rfl) ?_
          refine lv_iload F.1 F.2.1 dX9_cellGives_75 (lv_at hl 4 rfl) ?_
          refine lv_iadd F.1 F.2.1 dX9_cellGives_77 ?_
          obtain ⟨b_23, h⟩ := gd_some h
          refine rw_iald (q0 := 24) F hK hW idM_24 (fun _ => rfl) (ix_in b_23) dX9_cellGives_78 ?_
          refine lv_topi (fun v_24 ev_24 => ?_)
          have h := lt_n ev_24 h
          obtain ⟨b_25, h⟩ := gd_some h
          refine rw_iald (q0 := 39) F hK hW idM_39 (fun _ => rfl) (ix_in b_25) dX9_cellGives_79 ?_
          refine lv_topi (fun v_26 ev_26 => ?_)
          have h := lt_n ev_26 h
          refine lv_isub F.1 F.2.1 dX9_cellGives_80 ?_
          refine lv_goto (tgt := 115) F.1 F.2.1 dX9_cellGives_81 (by decide) ?_
          exact w_X9_cellGives_115 F hr hlk hK out kb Kb _ _ _ _ _ _ _ _ _  hW hS (lv_sub hl [1, 2, 3, 4] rfl) h
      · have h := (if_pos c_10).symm.trans h
        refine lv_iload_n F.1 F.2.1 dX9_cellGives_43 rfl (lv_at hl 2 rfl) ?_
        refine lv_aload_n F.1 F.2.1 dX9_cellGives_44 rfl (lv_at hl 1 rfl) ?_
        refine rw_get (q0 := 0) F hK hW idM_0 rfl rfl in_X9_cellGives_X9 30 (by decide) lk_X9_cellGives_77 rfl dX9_cellGives_45 ?_
        refine lv_iload_n F.1 F.2.1 dX9_cellGives_48 rfl (lv_at hl 3 rfl) ?_
        refine lv_iload F.1 F.2.1 dX9_cellGives_49 (lv_at hl 4 rfl) ?_
        refine lv_iadd F.1 F.2.1 dX9_cellGives_51 ?_
        obtain ⟨b_27, h⟩ := gd_some h
        refine rw_iald (q0 := 23) F hK hW idM_23 (fun _ => rfl) (ix_in b_27) dX9_cellGives_52 ?_
        refine lv_topi (fun v_28 ev_28 => ?_)
        have h := lt_n ev_28 h
        refine lv_ishr F.1 F.2.1 dX9_cellGives_53 ?_
        refine lv_iconst (v := 1) F.1 F.2.1 dX9_cellGives_54 (by decide) ?_
        refine lv_iand F.1 F.2.1 dX9_cellGives_55 ?_
        refine lv_goto (tgt := 115) F.1 F.2.1 dX9_cellGives_56 (by decide) ?_
        exact w_X9_cellGives_115 F hr hlk hK out kb Kb _ _ _ _ _ _ _ _ _  hW hS (lv_sub hl [1, 2, 3, 4] rfl) h
set_option maxHeartbeats 4000000 in
set_option maxRecDepth 100000 in
theorem c_X9_cellGives (l : Launch) (G : GT) (A : Nat → Prop) (a0 : Int32) (a1 : Int32) (S : St) (out : Int32 × St) (h : f_X9_cellGives a0 a1 S = some out) : Met l yX9_cellGives wsX9_cellGives rm_X9_cellGives (va_Pc [.ref (G.2.2 0 0), .int a0, .int a1] (WD shM idsM G A S)) (QI shM idsM G A out) 0 0 A := by
  refine Met.ofW (cc := cX9_cellGives) (maxL := 6) (ret := (some .int)) (by decide) rfl ?_
  intro p e s m args below meth c s₁ B hml hv
  obtain ⟨rfl, hW, hK⟩ := hv
  have F : CallFix p m c cX9_cellGives 6 s _ wsX9_cellGives RX9 := ⟨B.exec, B.bytes, hml, findClass_of_methodNamed B.named, atoms_spec (ws := wsX9_cellGives) B.pre⟩
  have hr := B.returns
  have hlk := B.notSynchronized
  have hS : va_S A s.heap s.heap [] := va_S.rf
  have hl := lv_entry ([.ref (G.2.2 0 0), .int a0, .int a1]) (n := 6) (Nat.le_of_ble_eq_true rfl)
  rw [lg_entry_eq]
  generalize (lg_sl ([.ref (G.2.2 0 0), .int a0, .int a1]) ++ List.replicate (6 - (lg_sl ([.ref (G.2.2 0 0), .int a0, .int a1])).length) Slot.unset).toArray = ls at hl ⊢
  have hl : lv_has ls 6 [(0, .ref (G.2.2 0 0)), (1, .int a0), (2, .int a1)] := hl
  unfold f_X9_cellGives at h
  refine lv_bipush (v := 12) F.1 F.2.1 dX9_cellGives_0 (by decide) ?_
  refine lv_iload_n F.1 F.2.1 dX9_cellGives_2 rfl (lv_at hl 1 rfl) ?_
  refine lv_imul F.1 F.2.1 dX9_cellGives_3 ?_
  refine lv_topi (fun v_1 ev_1 => ?_)
  have h := lt_n ev_1 h
  refine lv_istore_n (lv' := [(3, .int v_1), (0, .ref (G.2.2 0 0)), (1, .int a0), (2, .int a1)]) F.1 F.2.1 dX9_cellGives_4 rfl hl (by decide) rfl (fun ls hl => ?_)
  refine lv_aload_n F.1 F.2.1 dX9_cellGives_5 rfl (lv_at hl 1 rfl) ?_
  refine rw_get (q0 := 0) F hK hW idM_0 rfl rfl in_X9_cellGives_X9 26 (by decide) lk_X9_cellGives_65 rfl dX9_cellGives_6 ?_
  refine lv_iload_n F.1 F.2.1 dX9_cellGives_9 rfl (lv_at hl 2 rfl) ?_
  obtain ⟨b_2, h⟩ := gd_some h
  refine rw_iald (q0 := 19) F hK hW idM_19 (fun _ => rfl) (ix_in b_2) dX9_cellGives_10 ?_
  refine lv_topi (fun v_3 ev_3 => ?_)
  have h := lt_n ev_3 h
  refine lv_iconst (v := 1) F.1 F.2.1 dX9_cellGives_11 (by decide) ?_
  refine lv_isub F.1 F.2.1 dX9_cellGives_12 ?_
  refine lv_topi (fun v_4 ev_4 => ?_)
  have h := lt_n ev_4 h
  refine lv_istore (lv' := [(4, .int v_4), (3, .int v_1), (0, .ref (G.2.2 0 0)), (1, .int a0), (2, .int a1)]) F.1 F.2.1 dX9_cellGives_13 hl (by decide) rfl (fun ls hl => ?_)
  refine w_X9_cellGives_15 F hr hlk hK out   5000 _ _ _ _ _ _ _  hW hS (lv_sub hl [2, 4, 1, 0] rfl) h
/-! CellCoverModel.mapped(J)I -/
abbrev rm_X9_mapped : Room := { frames := 1, cells := 0, slots := 0, locals := 25 }
theorem in_X9_mapped_X9 : ∀ w ∈ wsX90, w ∈ wsX9_mapped := by decide +kernel
theorem lk_X9_mapped_132 : Cond.fieldLink RX9 132 "CellCoverModel" "hasCover" "Z" ∈ wsX9_mapped := by decide +kernel
theorem lk_X9_mapped_163 : Cond.fieldLink RX9 163 "CellCoverModel" "vertices" "I" ∈ wsX9_mapped := by decide +kernel
theorem lk_X9_mapped_122 : Cond.fieldLink RX9 122 "CellCoverModel" "value" "[I" ∈ wsX9_mapped := by decide +kernel
theorem lk_X9_mapped_31 : Cond.fieldLink RX9 31 "CellCoverModel" "vWhat" "[I" ∈ wsX9_mapped := by decide +kernel
theorem lk_X9_mapped_116 : Cond.fieldLink RX9 116 "CellCoverModel" "stands" "[Z" ∈ wsX9_mapped := by decide +kernel
theorem lk_X9_mapped_110 : Cond.fieldLink RX9 110 "CellCoverModel" "bestPins" "[I" ∈ wsX9_mapped := by decide +kernel
theorem lk_X9_mapped_107 : Cond.fieldLink RX9 107 "CellCoverModel" "bestCell" "[I" ∈ wsX9_mapped := by decide +kernel
theorem lk_X9_mapped_160 : Cond.fieldLink RX9 160 "CellCoverModel" "outputs" "I" ∈ wsX9_mapped := by decide +kernel
theorem lk_X9_mapped_40 : Cond.fieldLink RX9 40 "CellCoverModel" "vertexOf" "[I" ∈ wsX9_mapped := by decide +kernel
theorem lk_X9_mapped_22 : Cond.fieldLink RX9 22 "CellCoverModel" "outputOf" "[I" ∈ wsX9_mapped := by decide +kernel
set_option maxHeartbeats 4000000 in
set_option maxRecDepth 100000 in
theorem w_X9_mapped_151 {p : Program} {l : Launch} {e : Env} {s : State} {m : MethodId} {args : Array Value} {below : List Frame} {meth : Method} {c : Code} {G : GT} {A : Nat → Prop} (F : CallFix p m c cX9_mapped 8 s args wsX9_mapped RX9) (hr : meth.sig.returnType = (some .int)) (hlk : meth.locks = false) (hK : va_K G.1 vwCl (tyl G) s) (out : Int32 × St) (kb : St → Int64 → Int32 → Int32 → Option (Int32 × St)) (k157 : St → Option (Int32 × St)) (Kb : ∀ (S : St) (x1 : Int64) (x3 : Int32) (x4 : Int32) (H : Heap) (locs : List Loc) (ls : Array Slot), Wd shM idsM G A S H → va_S A s.heap H locs → lv_has ls 8 [(0, .ref (G.2.2 0 0)), (1, .long x1), (3, .int x3), (4, .int x4)] → kb S x1 x3 x4 = some out → W p l e rm_X9_mapped s m args below meth c H locs 0 0 (MQ below (QI shM idsM G A out) args s 0 0 A) (F0 m 15 ls [])) (K157 : ∀ (S : St) (H : Heap) (locs : List Loc) (ls : Array Slot), Wd shM idsM G A S H → va_S A s.heap H locs → lv_has ls 8 [(0, .ref (G.2.2 0 0))] → k157 S = some out → W p l e rm_X9_mapped s m args below meth c H locs 0 0 (MQ below (QI shM idsM G A out) args s 0 0 A) (F0 m 157 ls [])) : ∀ (S : St) (x1 : Int64) (x3 : Int32) (x4 : Int32) (H : Heap) (locs : List Loc) (ls : Array Slot), Wd shM idsM G A S H → va_S A s.heap H locs → lv_has ls 8 [(0, .ref (G.2.2 0 0)), (1, .long x1), (3, .int x3), (4, .int x4)] → j_X9_mapped_151 kb k157 S x1 x3 x4 = some out → W p l e rm_X9_mapped s m args below meth c H locs 0 0 (MQ below (QI shM idsM G A out) args s 0 0 A) (F0 m 151 ls []) := by
  intro S x1 x3 x4 H locs ls hW hS hl h
  unfold j_X9_mapped_151 at h
  obtain ⟨v_11, ev_11⟩ : ∃ y : Int32, y = x4 + 1 := ⟨_, rfl⟩
  have h := lt_n ev_11 h
  refine lv_iinc (v := v_11) (lv' := [(4, .int v_11), (0, .ref (G.2.2 0 0)), (1, .long x1), (3, .int x3)]) F.1 F.2.1 dX9_mapped_151 hl (k := 3) rfl (by rw [ev_11]; rfl) (by decide) rfl (fun ls hl => ?_)
  refine lv_goto (tgt := 15) F.1 F.2.1 dX9_mapped_154 (by decide) ?_
  exact Kb _ _ _ _ _ _ _  hW hS (lv_sub hl [1, 2, 3, 0] rfl) h
set_option maxHeartbeats 4000000 in
set_option maxRecDepth 100000 in
theorem w_X9_mapped_122 {p : Program} {l : Launch} {e : Env} {s : State} {m : MethodId} {args : Array Value} {below : List Frame} {meth : Method} {c : Code} {G : GT} {A : Nat → Prop} (F : CallFix p m c cX9_mapped 8 s args wsX9_mapped RX9) (hr : meth.sig.returnType = (some .int)) (hlk : meth.locks = false) (hK : va_K G.1 vwCl (tyl G) s) (out : Int32 × St) (kb : St → Int64 → Int32 → Int32 → Int32 → Int32 → Option (Int32 × St)) (k131 : St → Int64 → Int32 → Int32 → Int32 → Option (Int32 × St)) (Kb : ∀ (S : St) (x1 : Int64) (x3 : Int32) (x4 : Int32) (x5 : Int32) (x6 : Int32) (H : Heap) (locs : List Loc) (ls : Array Slot), Wd shM idsM G A S H → va_S A s.heap H locs → lv_has ls 8 [(0, .ref (G.2.2 0 0)), (1, .long x1), (3, .int x3), (4, .int x4), (5, .int x5), (6, .int x6)] → kb S x1 x3 x4 x5 x6 = some out → W p l e rm_X9_mapped s m args below meth c H locs 0 0 (MQ below (QI shM idsM G A out) args s 0 0 A) (F0 m 77 ls [])) (K131 : ∀ (S : St) (x1 : Int64) (x3 : Int32) (x4 : Int32) (x5 : Int32) (H : Heap) (locs : List Loc) (ls : Array Slot), Wd shM idsM G A S H → va_S A s.heap H locs → lv_has ls 8 [(0, .ref (G.2.2 0 0)), (1, .long x1), (3, .int x3), (4, .int x4), (5, .int x5)] → k131 S x1 x3 x4 x5 = some out → W p l e rm_X9_mapped s m args below meth c H locs 0 0 (MQ below (QI shM idsM G A out) args s 0 0 A) (F0 m 131 ls [])) : ∀ (S : St) (x1 : Int64) (x3 : Int32) (x4 : Int32) (x6 : Int32) (y0 : Int32) (y1 : Int32) (H : Heap) (locs : List Loc) (ls : Array Slot), Wd shM idsM G A S H → va_S A s.heap H locs → lv_has ls 8 [(0, .ref (G.2.2 0 0)), (1, .long x1), (3, .int x3), (4, .int x4), (6, .int x6)] → j_X9_mapped_122 kb k131 S x1 x3 x4 x6 y0 y1 = some out → W p l e rm_X9_mapped s m args below meth c H locs 0 0 (MQ below (QI shM idsM G A out) args s 0 0 A) (F0 m 122 ls [.int y1, .int y0]) := by
  intro S x1 x3 x4 x6 y0 y1 H locs ls hW hS hl h
  unfold j_X9_mapped_122 at h
  refine lv_ior F.1 F.2.1 dX9_mapped_122 ?_
  refine lv_topi (fun v_18 ev_18 => ?_)
  have h := lt_n ev_18 h
  refine lv_istore (lv' := [(5, .int v_18), (0, .ref (G.2.2 0 0)), (1, .long x1), (3, .int x3), (4, .int x4), (6, .int x6)]) F.1 F.2.1 dX9_mapped_123 hl (by decide) rfl (fun ls hl => ?_)
  obtain ⟨v_19, ev_19⟩ : ∃ y : Int32, y = x6 + 1 := ⟨_, rfl⟩
  have h := lt_n ev_19 h
  refine lv_iinc (v := v_19) (lv' := [(6, .int v_19), (5, .int v_18), (0, .ref (G.2.2 0 0)), (1, .long x1), (3, .int x3), (4, .int x4)]) F.1 F.2.1 dX9_mapped_125 hl (k := 5) rfl (by rw [ev_19]; rfl) (by decide) rfl (fun ls hl => ?_)
  refine lv_goto (tgt := 77) F.1 F.2.1 dX9_mapped_128 (by decide) ?_
  exact Kb _ _ _ _ _ _ _ _ _  hW hS (lv_sub hl [2, 3, 4, 5, 1, 0] rfl) h
set_option maxHeartbeats 4000000 in
set_option maxRecDepth 100000 in
theorem w_X9_mapped_77 {p : Program} {l : Launch} {e : Env} {s : State} {m : MethodId} {args : Array Value} {below : List Frame} {meth : Method} {c : Code} {G : GT} {A : Nat → Prop} (F : CallFix p m c cX9_mapped 8 s args wsX9_mapped RX9) (hr : meth.sig.returnType = (some .int)) (hlk : meth.locks = false) (hK : va_K G.1 vwCl (tyl G) s) (out : Int32 × St) (k131 : St → Int64 → Int32 → Int32 → Int32 → Option (Int32 × St)) (K131 : ∀ (S : St) (x1 : Int64) (x3 : Int32) (x4 : Int32) (x5 : Int32) (H : Heap) (locs : List Loc) (ls : Array Slot), Wd shM idsM G A S H → va_S A s.heap H locs → lv_has ls 8 [(0, .ref (G.2.2 0 0)), (1, .long x1), (3, .int x3), (4, .int x4), (5, .int x5)] → k131 S x1 x3 x4 x5 = some out → W p l e rm_X9_mapped s m args below meth c H locs 0 0 (MQ below (QI shM idsM G A out) args s 0 0 A) (F0 m 131 ls [])) : ∀ n : Nat, ∀ (S : St) (x1 : Int64) (x3 : Int32) (x4 : Int32) (x5 : Int32) (x6 : Int32) (H : Heap) (locs : List Loc) (ls : Array Slot), Wd shM idsM G A S H → va_S A s.heap H locs → lv_has ls 8 [(0, .ref (G.2.2 0 0)), (1, .long x1), (3, .int x3), (4, .int x4), (5, .int x5), (6, .int x6)] → l_X9_mapped_77 k131 n S x1 x3 x4 x5 x6 = some out → W p l e rm_X9_mapped s m args below meth c H locs 0 0 (MQ below (QI shM idsM G A out) args s 0 0 A) (F0 m 77 ls []) := by
  intro n
  induction n with
  | zero =>
    intro S x1 x3 x4 x5 x6 H locs ls hW hS hl h
    cases h
  | succ n Kb =>
    generalize hkb : l_X9_mapped_77 k131 n = kb at Kb
    intro S x1 x3 x4 x5 x6 H locs ls hW hS hl h
    rw [show l_X9_mapped_77 k131 (n + 1) = b_X9_mapped_77 (l_X9_mapped_77 k131 n) k131 from rfl, hkb] at h
    unfold b_X9_mapped_77 at h
    refine lv_iload F.1 F.2.1 dX9_mapped_77 (lv_at hl 5 rfl) ?_
    refine lv_bipush (v := 6) F.1 F.2.1 dX9_mapped_79 (by decide) ?_
    refine lv_icmp_ge (tgt := 131) F.1 F.2.1 dX9_mapped_81 (by decide) (fun c_12 => ?_) (fun c_12 => ?_)
    · have h := (if_pos c_12).symm.trans h
      exact K131 _ _ _ _ _ _ _ _  hW hS (lv_sub hl [0, 1, 2, 3, 4] rfl) h
    · have h := (if_neg c_12).symm.trans h
      refine lv_aload_n F.1 F.2.1 dX9_mapped_84 rfl (lv_at hl 0 rfl) ?_
      refine rw_get (q0 := 0) F hK hW idM_0 rfl rfl in_X9_mapped_X9 45 (by decide) lk_X9_mapped_110 rfl dX9_mapped_85 ?_
      refine lv_bipush (v := 6) F.1 F.2.1 dX9_mapped_88 (by decide) ?_
      refine lv_iload F.1 F.2.1 dX9_mapped_90 (lv_at hl 3 rfl) ?_
      refine lv_imul F.1 F.2.1 dX9_mapped_92 ?_
      refine lv_iload F.1 F.2.1 dX9_mapped_93 (lv_at hl 5 rfl) ?_
      refine lv_iadd F.1 F.2.1 dX9_mapped_95 ?_
      obtain ⟨b_13, h⟩ := gd_some h
      refine rw_iald (q0 := 34) F hK hW idM_34 (fun _ => rfl) (ix_in b_13) dX9_mapped_96 ?_
      refine lv_topi (fun v_14 ev_14 => ?_)
      have h := lt_n ev_14 h
      refine lv_istore (lv' := [(7, .int v_14), (0, .ref (G.2.2 0 0)), (1, .long x1), (3, .int x3), (4, .int x4), (5, .int x5), (6, .int x6)]) F.1 F.2.1 dX9_mapped_97 hl (by decide) rfl (fun ls hl => ?_)
      refine lv_iload F.1 F.2.1 dX9_mapped_99 (lv_at hl 5 rfl) ?_
      refine lv_iload F.1 F.2.1 dX9_mapped_101 (lv_at hl 0 rfl) ?_
      refine lv_bipush (v := -4) F.1 F.2.1 dX9_mapped_103 (by decide) ?_
      refine lv_icmp_ne (tgt := 112) F.1 F.2.1 dX9_mapped_105 (by decide) (fun c_15 => ?_) (fun c_15 => ?_)
      · have h := (if_neg c_15).symm.trans h
        refine lv_aload_n F.1 F.2.1 dX9_mapped_112 rfl (lv_at hl 1 rfl) ?_
        refine rw_get (q0 := 0) F hK hW idM_0 rfl rfl in_X9_mapped_X9 51 (by decide) lk_X9_mapped_122 rfl dX9_mapped_113 ?_
        refine lv_iload F.1 F.2.1 dX9_mapped_116 (lv_at hl 0 rfl) ?_
        obtain ⟨b_16, h⟩ := gd_some h
        refine rw_iald (q0 := 38) F hK hW idM_38 (fun _ => rfl) (ix_in b_16) dX9_mapped_118 ?_
        refine lv_topi (fun v_17 ev_17 => ?_)
        have h := lt_n ev_17 h
        refine lv_iload F.1 F.2.1 dX9_mapped_119 (lv_at hl 6 rfl) ?_
        refine lv_ishl F.1 F.2.1 dX9_mapped_121 ?_
        exact w_X9_mapped_122 F hr hlk hK out kb k131 Kb K131 _ _ _ _ _ _ _ _ _ _  hW hS (lv_sub hl [1, 2, 3, 4, 6] rfl) h
      · have h := (if_pos c_15).symm.trans h
        refine lv_iconst (v := 0) F.1 F.2.1 dX9_mapped_108 (by decide) ?_
        refine lv_goto (tgt := 122) F.1 F.2.1 dX9_mapped_109 (by decide) ?_
        exact w_X9_mapped_122 F hr hlk hK out kb k131 Kb K131 _ _ _ _ _ _ _ _ _ _  hW hS (lv_sub hl [1, 2, 3, 4, 6] rfl) h
set_option maxHeartbeats 4000000 in
set_option maxRecDepth 100000 in
theorem w_X9_mapped_15 {p : Program} {l : Launch} {e : Env} {s : State} {m : MethodId} {args : Array Value} {below : List Frame} {meth : Method} {c : Code} {G : GT} {A : Nat → Prop} (F : CallFix p m c cX9_mapped 8 s args wsX9_mapped RX9) (hr : meth.sig.returnType = (some .int)) (hlk : meth.locks = false) (hK : va_K G.1 vwCl (tyl G) s) (out : Int32 × St) (k157 : St → Option (Int32 × St)) (K157 : ∀ (S : St) (H : Heap) (locs : List Loc) (ls : Array Slot), Wd shM idsM G A S H → va_S A s.heap H locs → lv_has ls 8 [(0, .ref (G.2.2 0 0))] → k157 S = some out → W p l e rm_X9_mapped s m args below meth c H locs 0 0 (MQ below (QI shM idsM G A out) args s 0 0 A) (F0 m 157 ls [])) : ∀ n : Nat, ∀ (S : St) (x1 : Int64) (x3 : Int32) (x4 : Int32) (H : Heap) (locs : List Loc) (ls : Array Slot), Wd shM idsM G A S H → va_S A s.heap H locs → lv_has ls 8 [(0, .ref (G.2.2 0 0)), (1, .long x1), (3, .int x3), (4, .int x4)] → l_X9_mapped_15 k157 n S x1 x3 x4 = some out → W p l e rm_X9_mapped s m args below meth c H locs 0 0 (MQ below (QI shM idsM G A out) args s 0 0 A) (F0 m 15 ls []) := by
  intro n
  induction n with
  | zero =>
    intro S x1 x3 x4 H locs ls hW hS hl h
    cases h
  | succ n Kb =>
    generalize hkb : l_X9_mapped_15 k157 n = kb at Kb
    intro S x1 x3 x4 H locs ls hW hS hl h
    rw [show l_X9_mapped_15 k157 (n + 1) = b_X9_mapped_15 (l_X9_mapped_15 k157 n) k157 from rfl, hkb] at h
    unfold b_X9_mapped_15 at h
    refine lv_iload F.1 F.2.1 dX9_mapped_15 (lv_at hl 3 rfl) ?_
    refine lv_aload_n F.1 F.2.1 dX9_mapped_17 rfl (lv_at hl 0 rfl) ?_
    refine rw_get (q0 := 0) F hK hW idM_0 rfl rfl in_X9_mapped_X9 11 (by decide) lk_X9_mapped_163 rfl dX9_mapped_18 ?_
    refine lv_icmp_ge (tgt := 157) F.1 F.2.1 dX9_mapped_21 (by decide) (fun c_2 => ?_) (fun c_2 => ?_)
    · have h := (if_pos c_2).symm.trans h
      exact K157 _ _ _ _  hW hS (lv_sub hl [0] rfl) h
    · have h := (if_neg c_2).symm.trans h
      refine lv_aload_n F.1 F.2.1 dX9_mapped_24 rfl (lv_at hl 0 rfl) ?_
      refine rw_get (q0 := 0) F hK hW idM_0 rfl rfl in_X9_mapped_X9 51 (by decide) lk_X9_mapped_122 rfl dX9_mapped_25 ?_
      refine lv_iload F.1 F.2.1 dX9_mapped_28 (lv_at hl 3 rfl) ?_
      refine lv_iconst (v := 0) F.1 F.2.1 dX9_mapped_30 (by decide) ?_
      obtain ⟨b_3, h⟩ := gd_some h
      refine rw_iast ndM (q0 := 38) F hK hW hS idM_38 (fun _ => rfl) (ix_in b_3) dX9_mapped_31 (fun H locs S_4 eS_4 hW hS => ?_)
      have h := lt_n eS_4 h
      refine lv_aload_n F.1 F.2.1 dX9_mapped_32 rfl (lv_at hl 0 rfl) ?_
      refine rw_get (q0 := 0) F hK hW idM_0 rfl rfl in_X9_mapped_X9 12 (by decide) lk_X9_mapped_31 rfl dX9_mapped_33 ?_
      refine lv_iload F.1 F.2.1 dX9_mapped_36 (lv_at hl 3 rfl) ?_
      obtain ⟨b_5, h⟩ := gd_some h
      refine rw_iald (q0 := 8) F hK hW idM_8 (fun _ => rfl) (ix_in b_5) dX9_mapped_38 ?_
      refine lv_topi (fun v_6 ev_6 => ?_)
      have h := lt_n ev_6 h
      refine lv_if_ne (tgt := 61) F.1 F.2.1 dX9_mapped_39 (by decide) (fun c_7 => ?_) (fun c_7 => ?_)
      · have h := (if_neg c_7).symm.trans h
        refine lv_aload_n F.1 F.2.1 dX9_mapped_61 rfl (lv_at hl 0 rfl) ?_
        refine rw_get (q0 := 0) F hK hW idM_0 rfl rfl in_X9_mapped_X9 48 (by decide) lk_X9_mapped_116 rfl dX9_mapped_62 ?_
        refine lv_iload F.1 F.2.1 dX9_mapped_65 (lv_at hl 3 rfl) ?_
        obtain ⟨b_8, h⟩ := gd_some h
        refine rw_zald (q0 := 36) F hK hW idM_36 (fun _ => rfl) (ix_in b_8) dX9_mapped_67 ?_
        refine lv_topi (fun v_9 ev_9 => ?_)
        have h := lt_n ev_9 h
        refine lv_if_eq (tgt := 151) F.1 F.2.1 dX9_mapped_68 (by decide) (fun c_10 => ?_) (fun c_10 => ?_)
        · have h := (if_pos c_10).symm.trans h
          exact w_X9_mapped_151 F hr hlk hK out kb k157 Kb K157 _ _ _ _ _ _ _  hW hS hl h
        · have h := (if_neg c_10).symm.trans h
          refine lv_iconst (v := 0) F.1 F.2.1 dX9_mapped_71 (by decide) ?_
          refine lv_istore (lv' := [(5, .int 0), (0, .ref (G.2.2 0 0)), (1, .long x1), (3, .int x3), (4, .int x4)]) F.1 F.2.1 dX9_mapped_72 hl (by decide) rfl (fun ls hl => ?_)
          refine lv_iconst (v := 0) F.1 F.2.1 dX9_mapped_74 (by decide) ?_
          refine lv_istore (lv' := [(6, .int 0), (5, .int 0), (0, .ref (G.2.2 0 0)), (1, .long x1), (3, .int x3), (4, .int x4)]) F.1 F.2.1 dX9_mapped_75 hl (by decide) rfl (fun ls hl => ?_)
          refine w_X9_mapped_77 F hr hlk hK out _ ?_ 5000 _ _ _ _ _ _ _ _ _  hW hS (lv_sub hl [2, 3, 4, 5, 1, 0] rfl) h
          · intro S x1 x3 x4 x5 H locs ls hW hS hl h
            refine lv_aload_n F.1 F.2.1 dX9_mapped_131 rfl (lv_at hl 0 rfl) ?_
            refine rw_get (q0 := 0) F hK hW idM_0 rfl rfl in_X9_mapped_X9 51 (by decide) lk_X9_mapped_122 rfl dX9_mapped_132 ?_
            refine lv_iload F.1 F.2.1 dX9_mapped_135 (lv_at hl 3 rfl) ?_
            refine lv_aload_n F.1 F.2.1 dX9_mapped_137 rfl (lv_at hl 0 rfl) ?_
            refine lv_aload_n F.1 F.2.1 dX9_mapped_138 rfl (lv_at hl 0 rfl) ?_
            refine rw_get (q0 := 0) F hK hW idM_0 rfl rfl in_X9_mapped_X9 44 (by decide) lk_X9_mapped_107 rfl dX9_mapped_139 ?_
            refine lv_iload F.1 F.2.1 dX9_mapped_142 (lv_at hl 3 rfl) ?_
            obtain ⟨b_20, h⟩ := gd_some h
            refine rw_iald (q0 := 33) F hK hW idM_33 (fun _ => rfl) (ix_in b_20) dX9_mapped_144 ?_
            refine lv_topi (fun v_21 ev_21 => ?_)
            have h := lt_n ev_21 h
            refine lv_iload F.1 F.2.1 dX9_mapped_145 (lv_at hl 4 rfl) ?_
            obtain ⟨r_23, S_24, hq_22, h⟩ := bi_some h
            refine rw_vi F hK hW hS [.int v_21, .int x5] (rest := [.int x4, .ref (G.2.2 38 0)]) (c_X9_cellGives l G A v_21 x5 S (r_23, S_24) hq_22) (cwV 2 F.2.2.2.2 gX9_mapped_X9_cellGives rfl rfl rfl (by decide +kernel) ⟨Nat.le_of_ble_eq_true rfl, Nat.le_of_ble_eq_true rfl⟩) (rw_recv (q0 := 0) hK hW idM_0 rfl rfl) rfl hl.1 rfl (Nat.le_of_ble_eq_true rfl) dX9_mapped_147 (fun H locs hW hS => ?_)
            obtain ⟨b_25, h⟩ := gd_some h
            refine rw_iast ndM (q0 := 38) F hK hW hS idM_38 (fun _ => rfl) (ix_in b_25) dX9_mapped_150 (fun H locs S_26 eS_26 hW hS => ?_)
            have h := lt_n eS_26 h
            exact w_X9_mapped_151 F hr hlk hK out kb k157 Kb K157 _ _ _ _ _ _ _  hW hS (lv_sub hl [0, 1, 2, 3] rfl) h
      · have h := (if_pos c_7).symm.trans h
        refine lv_aload_n F.1 F.2.1 dX9_mapped_42 rfl (lv_at hl 0 rfl) ?_
        refine rw_get (q0 := 0) F hK hW idM_0 rfl rfl in_X9_mapped_X9 51 (by decide) lk_X9_mapped_122 rfl dX9_mapped_43 ?_
        refine lv_iload F.1 F.2.1 dX9_mapped_46 (lv_at hl 3 rfl) ?_
        refine lv_lload_n F.1 F.2.1 dX9_mapped_48 rfl (lv_at hl 1 rfl) ?_
        refine lv_iload_n F.1 F.2.1 dX9_mapped_49 rfl (lv_at hl 2 rfl) ?_
        refine lv_lshr (v := x1 >>> (x3.toInt64 &&& 63)) F.1 F.2.1 dX9_mapped_50 rfl ?_
        refine lv_lconst (v := 1) F.1 F.2.1 dX9_mapped_51 (by decide) ?_
        refine lv_land F.1 F.2.1 dX9_mapped_52 ?_
        refine lv_l2i (v := ((x1 >>> (x3.toInt64 &&& 63)) &&& 1).toInt32) F.1 F.2.1 dX9_mapped_53 rfl ?_
        obtain ⟨b_27, h⟩ := gd_some h
        refine rw_iast ndM (q0 := 38) F hK hW hS idM_38 (fun _ => rfl) (ix_in b_27) dX9_mapped_54 (fun H locs S_28 eS_28 hW hS => ?_)
        have h := lt_n eS_28 h
        obtain ⟨v_29, ev_29⟩ : ∃ y : Int32, y = x3 + 1 := ⟨_, rfl⟩
        have h := lt_n ev_29 h
        refine lv_iinc (v := v_29) (lv' := [(3, .int v_29), (0, .ref (G.2.2 0 0)), (1, .long x1), (4, .int x4)]) F.1 F.2.1 dX9_mapped_55 hl (k := 2) rfl (by rw [ev_29]; rfl) (by decide) rfl (fun ls hl => ?_)
        refine lv_goto (tgt := 151) F.1 F.2.1 dX9_mapped_58 (by decide) ?_
        exact w_X9_mapped_151 F hr hlk hK out kb k157 Kb K157 _ _ _ _ _ _ _  hW hS (lv_sub hl [1, 2, 0, 3] rfl) h
set_option maxHeartbeats 4000000 in
set_option maxRecDepth 100000 in
theorem w_X9_mapped_163 {p : Program} {l : Launch} {e : Env} {s : State} {m : MethodId} {args : Array Value} {below : List Frame} {meth : Method} {c : Code} {G : GT} {A : Nat → Prop} (F : CallFix p m c cX9_mapped 8 s args wsX9_mapped RX9) (hr : meth.sig.returnType = (some .int)) (hlk : meth.locks = false) (hK : va_K G.1 vwCl (tyl G) s) (out : Int32 × St) : ∀ n : Nat, ∀ (S : St) (x4 : Int32) (x5 : Int32) (H : Heap) (locs : List Loc) (ls : Array Slot), Wd shM idsM G A S H → va_S A s.heap H locs → lv_has ls 8 [(0, .ref (G.2.2 0 0)), (4, .int x4), (5, .int x5)] → l_X9_mapped_163 n S x4 x5 = some out → W p l e rm_X9_mapped s m args below meth c H locs 0 0 (MQ below (QI shM idsM G A out) args s 0 0 A) (F0 m 163 ls []) := by
  intro n
  induction n with
  | zero =>
    intro S x4 x5 H locs ls hW hS hl h
    cases h
  | succ n Kb =>
    generalize hkb : l_X9_mapped_163 n = kb at Kb
    intro S x4 x5 H locs ls hW hS hl h
    rw [show l_X9_mapped_163 (n + 1) = b_X9_mapped_163 (l_X9_mapped_163 n) from rfl, hkb] at h
    unfold b_X9_mapped_163 at h
    refine lv_iload F.1 F.2.1 dX9_mapped_163 (lv_at hl 2 rfl) ?_
    refine lv_aload_n F.1 F.2.1 dX9_mapped_165 rfl (lv_at hl 0 rfl) ?_
    refine rw_get (q0 := 0) F hK hW idM_0 rfl rfl in_X9_mapped_X9 5 (by decide) lk_X9_mapped_160 rfl dX9_mapped_166 ?_
    refine lv_icmp_ge (tgt := 203) F.1 F.2.1 dX9_mapped_169 (by decide) (fun c_30 => ?_) (fun c_30 => ?_)
    · have h := (if_pos c_30).symm.trans h
      refine lv_iload F.1 F.2.1 dX9_mapped_203 (lv_at hl 1 rfl) ?_
      exact rw_ret F hr hlk hK hW hS h dX9_mapped_205
    · have h := (if_neg c_30).symm.trans h
      refine lv_iload F.1 F.2.1 dX9_mapped_172 (lv_at hl 1 rfl) ?_
      refine lv_aload_n F.1 F.2.1 dX9_mapped_174 rfl (lv_at hl 0 rfl) ?_
      refine rw_get (q0 := 0) F hK hW idM_0 rfl rfl in_X9_mapped_X9 51 (by decide) lk_X9_mapped_122 rfl dX9_mapped_175 ?_
      refine lv_aload_n F.1 F.2.1 dX9_mapped_178 rfl (lv_at hl 0 rfl) ?_
      refine rw_get (q0 := 0) F hK hW idM_0 rfl rfl in_X9_mapped_X9 15 (by decide) lk_X9_mapped_40 rfl dX9_mapped_179 ?_
      refine lv_aload_n F.1 F.2.1 dX9_mapped_182 rfl (lv_at hl 0 rfl) ?_
      refine rw_get (q0 := 0) F hK hW idM_0 rfl rfl in_X9_mapped_X9 6 (by decide) lk_X9_mapped_22 rfl dX9_mapped_183 ?_
      refine lv_iload F.1 F.2.1 dX9_mapped_186 (lv_at hl 2 rfl) ?_
      obtain ⟨b_31, h⟩ := gd_some h
      refine rw_iald (q0 := 5) F hK hW idM_5 (fun _ => rfl) (ix_in b_31) dX9_mapped_188 ?_
      refine lv_topi (fun v_32 ev_32 => ?_)
      have h := lt_n ev_32 h
      obtain ⟨b_33, h⟩ := gd_some h
      refine rw_iald (q0 := 11) F hK hW idM_11 (fun _ => rfl) (ix_in b_33) dX9_mapped_189 ?_
      refine lv_topi (fun v_34 ev_34 => ?_)
      have h := lt_n ev_34 h
      obtain ⟨b_35, h⟩ := gd_some h
      refine rw_iald (q0 := 38) F hK hW idM_38 (fun _ => rfl) (ix_in b_35) dX9_mapped_190 ?_
      refine lv_topi (fun v_36 ev_36 => ?_)
      have h := lt_n ev_36 h
      refine lv_iload F.1 F.2.1 dX9_mapped_191 (lv_at hl 2 rfl) ?_
      refine lv_ishl F.1 F.2.1 dX9_mapped_193 ?_
      refine lv_ior F.1 F.2.1 dX9_mapped_194 ?_
      refine lv_topi (fun v_37 ev_37 => ?_)
      have h := lt_n ev_37 h
      refine lv_istore (lv' := [(4, .int v_37), (0, .ref (G.2.2 0 0)), (5, .int x5)]) F.1 F.2.1 dX9_mapped_195 hl (by decide) rfl (fun ls hl => ?_)
      obtain ⟨v_38, ev_38⟩ : ∃ y : Int32, y = x5 + 1 := ⟨_, rfl⟩
      have h := lt_n ev_38 h
      refine lv_iinc (v := v_38) (lv' := [(5, .int v_38), (4, .int v_37), (0, .ref (G.2.2 0 0))]) F.1 F.2.1 dX9_mapped_197 hl (k := 2) rfl (by rw [ev_38]; rfl) (by decide) rfl (fun ls hl => ?_)
      refine lv_goto (tgt := 163) F.1 F.2.1 dX9_mapped_200 (by decide) ?_
      exact Kb _ _ _ _ _ _  hW hS (lv_sub hl [2, 1, 0] rfl) h
set_option maxHeartbeats 4000000 in
set_option maxRecDepth 100000 in
theorem c_X9_mapped (l : Launch) (G : GT) (A : Nat → Prop) (a0 : Int64) (S : St) (out : Int32 × St) (h : f_X9_mapped a0 S = some out) : Met l yX9_mapped wsX9_mapped rm_X9_mapped (va_Pc [.ref (G.2.2 0 0), .long a0] (WD shM idsM G A S)) (QI shM idsM G A out) 0 0 A := by
  refine Met.ofW (cc := cX9_mapped) (maxL := 8) (ret := (some .int)) (by decide) rfl ?_
  intro p e s m args below meth c s₁ B hml hv
  obtain ⟨rfl, hW, hK⟩ := hv
  have F : CallFix p m c cX9_mapped 8 s _ wsX9_mapped RX9 := ⟨B.exec, B.bytes, hml, findClass_of_methodNamed B.named, atoms_spec (ws := wsX9_mapped) B.pre⟩
  have hr := B.returns
  have hlk := B.notSynchronized
  have hS : va_S A s.heap s.heap [] := va_S.rf
  have hl := lv_entry ([.ref (G.2.2 0 0), .long a0]) (n := 8) (Nat.le_of_ble_eq_true rfl)
  rw [lg_entry_eq]
  generalize (lg_sl ([.ref (G.2.2 0 0), .long a0]) ++ List.replicate (8 - (lg_sl ([.ref (G.2.2 0 0), .long a0])).length) Slot.unset).toArray = ls at hl ⊢
  have hl : lv_has ls 8 [(0, .ref (G.2.2 0 0)), (1, .long a0)] := hl
  unfold f_X9_mapped at h
  refine lv_aload_n F.1 F.2.1 dX9_mapped_0 rfl (lv_at hl 0 rfl) ?_
  refine rw_get (q0 := 0) F hK hW idM_0 rfl rfl in_X9_mapped_X9 10 (by decide) lk_X9_mapped_132 rfl dX9_mapped_1 ?_
  refine lv_if_ne (tgt := 10) F.1 F.2.1 dX9_mapped_4 (by decide) (fun c_1 => ?_) (fun c_1 => ?_)
  · have h := (if_neg c_1).symm.trans h
    refine lv_iconst (v := 0) F.1 F.2.1 dX9_mapped_10 (by decide) ?_
    refine lv_istore_n (lv' := [(3, .int 0), (0, .ref (G.2.2 0 0)), (1, .long a0)]) F.1 F.2.1 dX9_mapped_11 rfl hl (by decide) rfl (fun ls hl => ?_)
    refine lv_iconst (v := 0) F.1 F.2.1 dX9_mapped_12 (by decide) ?_
    refine lv_istore (lv' := [(4, .int 0), (3, .int 0), (0, .ref (G.2.2 0 0)), (1, .long a0)]) F.1 F.2.1 dX9_mapped_13 hl (by decide) rfl (fun ls hl => ?_)
    refine w_X9_mapped_15 F hr hlk hK out _ ?_ 5000 _ _ _ _ _ _ _  hW hS (lv_sub hl [2, 3, 1, 0] rfl) h
    · intro S H locs ls hW hS hl h
      refine lv_iconst (v := 0) F.1 F.2.1 dX9_mapped_157 (by decide) ?_
      refine lv_istore (lv' := [(4, .int 0), (0, .ref (G.2.2 0 0))]) F.1 F.2.1 dX9_mapped_158 hl (by decide) rfl (fun ls hl => ?_)
      refine lv_iconst (v := 0) F.1 F.2.1 dX9_mapped_160 (by decide) ?_
      refine lv_istore (lv' := [(5, .int 0), (4, .int 0), (0, .ref (G.2.2 0 0))]) F.1 F.2.1 dX9_mapped_161 hl (by decide) rfl (fun ls hl => ?_)
      refine w_X9_mapped_163 F hr hlk hK out   5000 _ _ _ _ _ _  hW hS (lv_sub hl [2, 1, 0] rfl) h
  · have h := (if_pos c_1).symm.trans h
    refine lv_bipush (v := -2) F.1 F.2.1 dX9_mapped_7 (by decide) ?_
    exact rw_ret F hr hlk hK hW hS h dX9_mapped_9
/-! CellCoverModel.about(III)I -/
abbrev rm_X9_about : Room := { frames := 2, cells := 0, slots := 0, locals := 46 }
theorem in_X9_about_X9 : ∀ w ∈ wsX90, w ∈ wsX9_about := by decide +kernel
theorem lk_X9_about_272 : Cond.constantLong RX9 272 4 ∈ wsX9_about := by decide +kernel
theorem lk_X9_about_59 : Cond.fieldLink RX9 59 "CellCoverModel" "area" "[I" ∈ wsX9_about := by decide +kernel
theorem lk_X9_about_62 : Cond.fieldLink RX9 62 "CellCoverModel" "delay" "[I" ∈ wsX9_about := by decide +kernel
theorem lk_X9_about_65 : Cond.fieldLink RX9 65 "CellCoverModel" "size" "[I" ∈ wsX9_about := by decide +kernel
theorem lk_X9_about_71 : Cond.fieldLink RX9 71 "CellCoverModel" "pinsOf" "[I" ∈ wsX9_about := by decide +kernel
theorem lk_X9_about_274 : Cond.constantLong RX9 274 63 ∈ wsX9_about := by decide +kernel
set_option maxHeartbeats 4000000 in
set_option maxRecDepth 100000 in
theorem w_X9_about_37 {p : Program} {l : Launch} {e : Env} {s : State} {m : MethodId} {args : Array Value} {below : List Frame} {meth : Method} {c : Code} {G : GT} {A : Nat → Prop} (F : CallFix p m c cX9_about 4 s args wsX9_about RX9) (hr : meth.sig.returnType = (some .int)) (hlk : meth.locks = false) (hK : va_K G.1 vwCl (tyl G) s) (out : Int32 × St) : ∀ (S : St) (H : Heap) (locs : List Loc) (ls : Array Slot), Wd shM idsM G A S H → va_S A s.heap H locs → lv_has ls 4 [] → j_X9_about_37 S = some out → W p l e rm_X9_about s m args below meth c H locs 0 0 (MQ below (QI shM idsM G A out) args s 0 0 A) (F0 m 37 ls []) := by
  intro S H locs ls hW hS hl h
  unfold j_X9_about_37 at h
  refine lv_iconst (v := -1) F.1 F.2.1 dX9_about_37 (by decide) ?_
  exact rw_ret F hr hlk hK hW hS h dX9_about_38
set_option maxHeartbeats 4000000 in
set_option maxRecDepth 100000 in
theorem w_X9_about_39 {p : Program} {l : Launch} {e : Env} {s : State} {m : MethodId} {args : Array Value} {below : List Frame} {meth : Method} {c : Code} {G : GT} {A : Nat → Prop} (F : CallFix p m c cX9_about 4 s args wsX9_about RX9) (hr : meth.sig.returnType = (some .int)) (hlk : meth.locks = false) (hK : va_K G.1 vwCl (tyl G) s) (out : Int32 × St) : ∀ (S : St) (x1 : Int32) (x2 : Int32) (x3 : Int32) (H : Heap) (locs : List Loc) (ls : Array Slot), Wd shM idsM G A S H → va_S A s.heap H locs → lv_has ls 4 [(0, .ref (G.2.2 0 0)), (1, .int x1), (2, .int x2), (3, .int x3)] → j_X9_about_39 S x1 x2 x3 = some out → W p l e rm_X9_about s m args below meth c H locs 0 0 (MQ below (QI shM idsM G A out) args s 0 0 A) (F0 m 39 ls []) := by
  intro S x1 x2 x3 H locs ls hW hS hl h
  unfold j_X9_about_39 at h
  refine lv_iload_n F.1 F.2.1 dX9_about_39 rfl (lv_at hl 2 rfl) ?_
  by_cases c_10 : x2 = 0
  · have h := (if_pos c_10).symm.trans h
    refine lv_tableIn (off := 32) (tgt := 72) F.1 F.2.1 dX9_about_40 (by rw [c_10]; decide) (by rw [c_10]; decide) (by rw [c_10]; rfl) (by decide) ?_
    refine lv_aload_n F.1 F.2.1 dX9_about_72 rfl (lv_at hl 0 rfl) ?_
    refine rw_get (q0 := 0) F hK hW idM_0 rfl rfl in_X9_about_X9 24 (by decide) lk_X9_about_59 rfl dX9_about_73 ?_
    refine lv_iload_n F.1 F.2.1 dX9_about_76 rfl (lv_at hl 1 rfl) ?_
    obtain ⟨b_11, h⟩ := gd_some h
    refine rw_iald (q0 := 17) F hK hW idM_17 (fun _ => rfl) (ix_in b_11) dX9_about_77 ?_
    refine lv_topi (fun v_12 ev_12 => ?_)
    have h := lt_n ev_12 h
    exact rw_ret F hr hlk hK hW hS h dX9_about_78
  · have h := (if_neg c_10).symm.trans h
    by_cases c_13 : x2 = 1
    · have h := (if_pos c_13).symm.trans h
      refine lv_tableIn (off := 39) (tgt := 79) F.1 F.2.1 dX9_about_40 (by rw [c_13]; decide) (by rw [c_13]; decide) (by rw [c_13]; rfl) (by decide) ?_
      refine lv_aload_n F.1 F.2.1 dX9_about_79 rfl (lv_at hl 0 rfl) ?_
      refine rw_get (q0 := 0) F hK hW idM_0 rfl rfl in_X9_about_X9 25 (by decide) lk_X9_about_62 rfl dX9_about_80 ?_
      refine lv_iload_n F.1 F.2.1 dX9_about_83 rfl (lv_at hl 1 rfl) ?_
      obtain ⟨b_14, h⟩ := gd_some h
      refine rw_iald (q0 := 18) F hK hW idM_18 (fun _ => rfl) (ix_in b_14) dX9_about_84 ?_
      refine lv_topi (fun v_15 ev_15 => ?_)
      have h := lt_n ev_15 h
      exact rw_ret F hr hlk hK hW hS h dX9_about_85
    · have h := (if_neg c_13).symm.trans h
      by_cases c_16 : x2 = 2
      · have h := (if_pos c_16).symm.trans h
        refine lv_tableIn (off := 46) (tgt := 86) F.1 F.2.1 dX9_about_40 (by rw [c_16]; decide) (by rw [c_16]; decide) (by rw [c_16]; rfl) (by decide) ?_
        refine lv_aload_n F.1 F.2.1 dX9_about_86 rfl (lv_at hl 0 rfl) ?_
        refine rw_get (q0 := 0) F hK hW idM_0 rfl rfl in_X9_about_X9 26 (by decide) lk_X9_about_65 rfl dX9_about_87 ?_
        refine lv_iload_n F.1 F.2.1 dX9_about_90 rfl (lv_at hl 1 rfl) ?_
        obtain ⟨b_17, h⟩ := gd_some h
        refine rw_iald (q0 := 19) F hK hW idM_19 (fun _ => rfl) (ix_in b_17) dX9_about_91 ?_
        refine lv_topi (fun v_18 ev_18 => ?_)
        have h := lt_n ev_18 h
        exact rw_ret F hr hlk hK hW hS h dX9_about_92
      · have h := (if_neg c_16).symm.trans h
        by_cases c_19 : x2 = 3
        · have h := (if_pos c_19).symm.trans h
          refine lv_tableIn (off := 53) (tgt := 93) F.1 F.2.1 dX9_about_40 (by rw [c_19]; decide) (by rw [c_19]; decide) (by rw [c_19]; rfl) (by decide) ?_
          refine lv_aload_n F.1 F.2.1 dX9_about_93 rfl (lv_at hl 0 rfl) ?_
          refine rw_get (q0 := 0) F hK hW idM_0 rfl rfl in_X9_about_X9 28 (by decide) lk_X9_about_71 rfl dX9_about_94 ?_
          refine lv_iload_n F.1 F.2.1 dX9_about_97 rfl (lv_at hl 1 rfl) ?_
          obtain ⟨b_20, h⟩ := gd_some h
          refine rw_iald (q0 := 21) F hK hW idM_21 (fun _ => rfl) (ix_in b_20) dX9_about_98 ?_
          refine lv_topi (fun v_21 ev_21 => ?_)
          have h := lt_n ev_21 h
          exact rw_ret F hr hlk hK hW hS h dX9_about_99
        · have h := (if_neg c_19).symm.trans h
          have nc_10 := lv_neT c_10 (a := 0) (by decide)
          have nc_13 := lv_neT c_13 (a := 1) (by decide)
          have nc_16 := lv_neT c_16 (a := 2) (by decide)
          have nc_19 := lv_neT c_19 (a := 3) (by decide)
          refine lv_tableOut (tgt := 100) F.1 F.2.1 dX9_about_40 (by omega) (by decide) ?_
          refine lv_aload_n F.1 F.2.1 dX9_about_100 rfl (lv_at hl 0 rfl) ?_
          refine lv_iload_n F.1 F.2.1 dX9_about_101 rfl (lv_at hl 1 rfl) ?_
          refine lv_iload_n F.1 F.2.1 dX9_about_102 rfl (lv_at hl 3 rfl) ?_
          obtain ⟨r_23, S_24, hq_22, h⟩ := bi_some h
          refine rw_vi F hK hW hS [.int x1, .int x3] (rest := []) (c_X9_cellGives l G A x1 x3 S (r_23, S_24) hq_22) (cwV 2 F.2.2.2.2 gX9_about_X9_cellGives rfl rfl rfl (by decide +kernel) ⟨Nat.le_of_ble_eq_true rfl, Nat.le_of_ble_eq_true rfl⟩) (rw_recv (q0 := 0) hK hW idM_0 rfl rfl) rfl hl.1 rfl (Nat.le_of_ble_eq_true rfl) dX9_about_103 (fun H locs hW hS => ?_)
          exact rw_ret F hr hlk hK hW hS h dX9_about_106
set_option maxHeartbeats 4000000 in
set_option maxRecDepth 100000 in
theorem c_X9_about (l : Launch) (G : GT) (A : Nat → Prop) (a0 : Int32) (a1 : Int32) (a2 : Int32) (S : St) (out : Int32 × St) (h : f_X9_about a0 a1 a2 S = some out) : Met l yX9_about wsX9_about rm_X9_about (va_Pc [.ref (G.2.2 0 0), .int a0, .int a1, .int a2] (WD shM idsM G A S)) (QI shM idsM G A out) 0 0 A := by
  refine Met.ofW (cc := cX9_about) (maxL := 4) (ret := (some .int)) (by decide) rfl ?_
  intro p e s m args below meth c s₁ B hml hv
  obtain ⟨rfl, hW, hK⟩ := hv
  have F : CallFix p m c cX9_about 4 s _ wsX9_about RX9 := ⟨B.exec, B.bytes, hml, findClass_of_methodNamed B.named, atoms_spec (ws := wsX9_about) B.pre⟩
  have hr := B.returns
  have hlk := B.notSynchronized
  have hS : va_S A s.heap s.heap [] := va_S.rf
  have hl := lv_entry ([.ref (G.2.2 0 0), .int a0, .int a1, .int a2]) (n := 4) (Nat.le_of_ble_eq_true rfl)
  rw [lg_entry_eq]
  generalize (lg_sl ([.ref (G.2.2 0 0), .int a0, .int a1, .int a2]) ++ List.replicate (4 - (lg_sl ([.ref (G.2.2 0 0), .int a0, .int a1, .int a2])).length) Slot.unset).toArray = ls at hl ⊢
  have hl : lv_has ls 4 [(0, .ref (G.2.2 0 0)), (1, .int a0), (2, .int a1), (3, .int a2)] := hl
  unfold f_X9_about at h
  refine lv_aload_n F.1 F.2.1 dX9_about_0 rfl (lv_at hl 0 rfl) ?_
  refine lv_iload_n F.1 F.2.1 dX9_about_1 rfl (lv_at hl 1 rfl) ?_
  obtain ⟨r_2, S_3, hq_1, h⟩ := bi_some h
  refine rw_vi F hK hW hS [.int a0] (rest := []) (c_X9_isCell l G A a0 S (r_2, S_3) hq_1) (cwV 1 F.2.2.2.2 gX9_about_X9_isCell rfl rfl rfl (by decide +kernel) ⟨Nat.le_of_ble_eq_true rfl, Nat.le_of_ble_eq_true rfl⟩) (rw_recv (q0 := 0) hK hW idM_0 rfl rfl) rfl hl.1 rfl (Nat.le_of_ble_eq_true rfl) dX9_about_2 (fun H locs hW hS => ?_)
  refine lv_if_eq (tgt := 37) F.1 F.2.1 dX9_about_5 (by decide) (fun c_4 => ?_) (fun c_4 => ?_)
  · have h := (if_pos c_4).symm.trans h
    exact w_X9_about_37 F hr hlk hK out  _ _ _ _  hW hS (lv_sub hl [] rfl) h
  · have h := (if_neg c_4).symm.trans h
    refine lv_iload_n F.1 F.2.1 dX9_about_8 rfl (lv_at hl 2 rfl) ?_
    refine lv_i2l (v := a1.toInt64) F.1 F.2.1 dX9_about_9 rfl ?_
    refine lv_lconst (v := 0) F.1 F.2.1 dX9_about_10 (by decide) ?_
    refine lv_ldc2 (v := 4) F.1 F.2.1 F.2.2.2.1 (F.2.2.2.2 _ lk_X9_about_272) dX9_about_11 ?_
    obtain ⟨r_6, S_7, hq_5, h⟩ := bi_some h
    refine rw_si F hK hW hS [.long a1.toInt64, .long 0, .long 4] (rest := []) (c_X9_in l G A a1.toInt64 0 4 S_3 (r_6, S_7) hq_5) (va_cwS 3 F.2.2.2.2 gX9_about_X9_in rfl rfl rfl (by decide +kernel) ⟨Nat.le_of_ble_eq_true rfl, Nat.le_of_ble_eq_true rfl⟩) rfl hl.1 rfl (Nat.le_of_ble_eq_true rfl) dX9_about_14 (fun H locs hW hS => ?_)
    refine lv_if_eq (tgt := 37) F.1 F.2.1 dX9_about_17 (by decide) (fun c_8 => ?_) (fun c_8 => ?_)
    · have h := (if_pos c_8).symm.trans h
      exact w_X9_about_37 F hr hlk hK out  _ _ _ _  hW hS (lv_sub hl [] rfl) h
    · have h := (if_neg c_8).symm.trans h
      refine lv_iload_n F.1 F.2.1 dX9_about_20 rfl (lv_at hl 2 rfl) ?_
      refine lv_iconst (v := 4) F.1 F.2.1 dX9_about_21 (by decide) ?_
      refine lv_icmp_ne (tgt := 39) F.1 F.2.1 dX9_about_22 (by decide) (fun c_9 => ?_) (fun c_9 => ?_)
      · have h := (if_neg c_9).symm.trans h
        exact w_X9_about_39 F hr hlk hK out  _ _ _ _ _ _ _  hW hS hl h
      · have h := (if_pos c_9).symm.trans h
        refine lv_iload_n F.1 F.2.1 dX9_about_25 rfl (lv_at hl 3 rfl) ?_
        refine lv_i2l (v := a2.toInt64) F.1 F.2.1 dX9_about_26 rfl ?_
        refine lv_lconst (v := 0) F.1 F.2.1 dX9_about_27 (by decide) ?_
        refine lv_ldc2 (v := 63) F.1 F.2.1 F.2.2.2.1 (F.2.2.2.2 _ lk_X9_about_274) dX9_about_28 ?_
        obtain ⟨r_26, S_27, hq_25, h⟩ := bi_some h
        refine rw_si F hK hW hS [.long a2.toInt64, .long 0, .long 63] (rest := []) (c_X9_in l G A a2.toInt64 0 63 S_7 (r_26, S_27) hq_25) (va_cwS 3 F.2.2.2.2 gX9_about_X9_in rfl rfl rfl (by decide +kernel) ⟨Nat.le_of_ble_eq_true rfl, Nat.le_of_ble_eq_true rfl⟩) rfl hl.1 rfl (Nat.le_of_ble_eq_true rfl) dX9_about_31 (fun H locs hW hS => ?_)
        refine lv_if_ne (tgt := 39) F.1 F.2.1 dX9_about_34 (by decide) (fun c_28 => ?_) (fun c_28 => ?_)
        · have h := (if_neg c_28).symm.trans h
          exact w_X9_about_39 F hr hlk hK out  _ _ _ _ _ _ _  hW hS hl h
        · have h := (if_pos c_28).symm.trans h
          exact w_X9_about_37 F hr hlk hK out  _ _ _ _  hW hS (lv_sub hl [] rfl) h
