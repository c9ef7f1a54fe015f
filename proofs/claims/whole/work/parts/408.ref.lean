/-! CellCoverModel.count(I)I -/
abbrev rm_X9_count : Room := { frames := 0, cells := 0, slots := 0, locals := 0 }
theorem in_X9_count_X9 : ∀ w ∈ wsX90, w ∈ wsX9_count := by decide +kernel
theorem lk_X9_count_136 : Cond.fieldLink RX9 136 "CellCoverModel" "nodes" "I" ∈ wsX9_count := by decide +kernel
theorem lk_X9_count_7 : Cond.fieldLink RX9 7 "CellCoverModel" "nKind" "[I" ∈ wsX9_count := by decide +kernel
theorem lk_X9_count_160 : Cond.fieldLink RX9 160 "CellCoverModel" "outputs" "I" ∈ wsX9_count := by decide +kernel
theorem lk_X9_count_163 : Cond.fieldLink RX9 163 "CellCoverModel" "vertices" "I" ∈ wsX9_count := by decide +kernel
theorem lk_X9_count_50 : Cond.fieldLink RX9 50 "CellCoverModel" "root" "[Z" ∈ wsX9_count := by decide +kernel
theorem lk_X9_count_46 : Cond.fieldLink RX9 46 "CellCoverModel" "lives" "[Z" ∈ wsX9_count := by decide +kernel
theorem lk_X9_count_222 : Cond.fieldLink RX9 222 "CellCoverModel" "cells" "I" ∈ wsX9_count := by decide +kernel
theorem lk_X9_count_56 : Cond.fieldLink RX9 56 "CellCoverModel" "isThere" "[Z" ∈ wsX9_count := by decide +kernel
theorem lk_X9_count_191 : Cond.fieldLink RX9 191 "CellCoverModel" "taped" "I" ∈ wsX9_count := by decide +kernel
theorem lk_X9_count_132 : Cond.fieldLink RX9 132 "CellCoverModel" "hasCover" "Z" ∈ wsX9_count := by decide +kernel
theorem lk_X9_count_250 : Cond.fieldLink RX9 250 "CellCoverModel" "instances" "I" ∈ wsX9_count := by decide +kernel
set_option maxHeartbeats 4000000 in
set_option maxRecDepth 100000 in
theorem w_X9_count_82 {p : Program} {l : Launch} {e : Env} {s : State} {m : MethodId} {args : Array Value} {below : List Frame} {meth : Method} {c : Code} {G : GT} {A : Nat → Prop} (F : CallFix p m c cX9_count 4 s args wsX9_count RX9) (hr : meth.sig.returnType = (some .int)) (hlk : meth.locks = false) (hK : va_K G.1 vwCl (tyl G) s) (out : Int32 × St) (kb : St → Int32 → Int32 → Option (Int32 × St)) (Kb : ∀ (S : St) (x2 : Int32) (x3 : Int32) (H : Heap) (locs : List Loc) (ls : Array Slot), Wd shM idsM G A S H → va_S A s.heap H locs → lv_has ls 4 [(0, .ref (G.2.2 0 0)), (2, .int x2), (3, .int x3)] → kb S x2 x3 = some out → W p l e rm_X9_count s m args below meth c H locs 0 0 (MQ below (QI shM idsM G A out) args s 0 0 A) (F0 m 59 ls [])) : ∀ (S : St) (x3 : Int32) (y0 : Int32) (y1 : Int32) (H : Heap) (locs : List Loc) (ls : Array Slot), Wd shM idsM G A S H → va_S A s.heap H locs → lv_has ls 4 [(0, .ref (G.2.2 0 0)), (3, .int x3)] → j_X9_count_82 kb S x3 y0 y1 = some out → W p l e rm_X9_count s m args below meth c H locs 0 0 (MQ below (QI shM idsM G A out) args s 0 0 A) (F0 m 82 ls [.int y1, .int y0]) := by
  intro S x3 y0 y1 H locs ls hW hS hl h
  unfold j_X9_count_82 at h
  refine lv_iadd F.1 F.2.1 dX9_count_82 ?_
  refine lv_topi (fun v_7 ev_7 => ?_)
  have h := lt_n ev_7 h
  refine lv_istore_n (lv' := [(2, .int v_7), (0, .ref (G.2.2 0 0)), (3, .int x3)]) F.1 F.2.1 dX9_count_83 rfl hl (by decide) rfl (fun ls hl => ?_)
  obtain ⟨v_8, ev_8⟩ : ∃ y : Int32, y = x3 + 1 := ⟨_, rfl⟩
  have h := lt_n ev_8 h
  refine lv_iinc (v := v_8) (lv' := [(3, .int v_8), (2, .int v_7), (0, .ref (G.2.2 0 0))]) F.1 F.2.1 dX9_count_84 hl (k := 2) rfl (by rw [ev_8]; rfl) (by decide) rfl (fun ls hl => ?_)
  refine lv_goto (tgt := 59) F.1 F.2.1 dX9_count_87 (by decide) ?_
  exact Kb _ _ _ _ _ _  hW hS (lv_sub hl [2, 1, 0] rfl) h
set_option maxHeartbeats 4000000 in
set_option maxRecDepth 100000 in
theorem w_X9_count_59 {p : Program} {l : Launch} {e : Env} {s : State} {m : MethodId} {args : Array Value} {below : List Frame} {meth : Method} {c : Code} {G : GT} {A : Nat → Prop} (F : CallFix p m c cX9_count 4 s args wsX9_count RX9) (hr : meth.sig.returnType = (some .int)) (hlk : meth.locks = false) (hK : va_K G.1 vwCl (tyl G) s) (out : Int32 × St) : ∀ n : Nat, ∀ (S : St) (x2 : Int32) (x3 : Int32) (H : Heap) (locs : List Loc) (ls : Array Slot), Wd shM idsM G A S H → va_S A s.heap H locs → lv_has ls 4 [(0, .ref (G.2.2 0 0)), (2, .int x2), (3, .int x3)] → l_X9_count_59 n S x2 x3 = some out → W p l e rm_X9_count s m args below meth c H locs 0 0 (MQ below (QI shM idsM G A out) args s 0 0 A) (F0 m 59 ls []) := by
  intro n
  induction n with
  | zero =>
    intro S x2 x3 H locs ls hW hS hl h
    cases h
  | succ n Kb =>
    generalize hkb : l_X9_count_59 n = kb at Kb
    intro S x2 x3 H locs ls hW hS hl h
    rw [show l_X9_count_59 (n + 1) = b_X9_count_59 (l_X9_count_59 n) from rfl, hkb] at h
    unfold b_X9_count_59 at h
    refine lv_iload_n F.1 F.2.1 dX9_count_59 rfl (lv_at hl 2 rfl) ?_
    refine lv_aload_n F.1 F.2.1 dX9_count_60 rfl (lv_at hl 0 rfl) ?_
    refine rw_get (q0 := 0) F hK hW idM_0 rfl rfl in_X9_count_X9 0 (by decide) lk_X9_count_136 rfl dX9_count_61 ?_
    refine lv_icmp_ge (tgt := 90) F.1 F.2.1 dX9_count_64 (by decide) (fun c_3 => ?_) (fun c_3 => ?_)
    · have h := (if_pos c_3).symm.trans h
      refine lv_iload_n F.1 F.2.1 dX9_count_90 rfl (lv_at hl 1 rfl) ?_
      exact rw_ret F hr hlk hK hW hS h dX9_count_91
    · have h := (if_neg c_3).symm.trans h
      refine lv_iload_n F.1 F.2.1 dX9_count_67 rfl (lv_at hl 1 rfl) ?_
      refine lv_aload_n F.1 F.2.1 dX9_count_68 rfl (lv_at hl 0 rfl) ?_
      refine rw_get (q0 := 0) F hK hW idM_0 rfl rfl in_X9_count_X9 1 (by decide) lk_X9_count_7 rfl dX9_count_69 ?_
      refine lv_iload_n F.1 F.2.1 dX9_count_72 rfl (lv_at hl 2 rfl) ?_
      obtain ⟨b_4, h⟩ := gd_some h
      refine rw_iald (q0 := 1) F hK hW idM_1 (fun _ => rfl) (ix_in b_4) dX9_count_73 ?_
      refine lv_topi (fun v_5 ev_5 => ?_)
      have h := lt_n ev_5 h
      refine lv_if_ge (tgt := 81) F.1 F.2.1 dX9_count_74 (by decide) (fun c_6 => ?_) (fun c_6 => ?_)
      · have h := (if_pos c_6).symm.trans h
        refine lv_iconst (v := 0) F.1 F.2.1 dX9_count_81 (by decide) ?_
        exact w_X9_count_82 F hr hlk hK out kb Kb _ _ _ _ _ _ _  hW hS (lv_sub hl [0, 2] rfl) h
      · have h := (if_neg c_6).symm.trans h
        refine lv_iconst (v := 1) F.1 F.2.1 dX9_count_77 (by decide) ?_
        refine lv_goto (tgt := 82) F.1 F.2.1 dX9_count_78 (by decide) ?_
        exact w_X9_count_82 F hr hlk hK out kb Kb _ _ _ _ _ _ _  hW hS (lv_sub hl [0, 2] rfl) h
set_option maxHeartbeats 4000000 in
set_option maxRecDepth 100000 in
theorem w_X9_count_144 {p : Program} {l : Launch} {e : Env} {s : State} {m : MethodId} {args : Array Value} {below : List Frame} {meth : Method} {c : Code} {G : GT} {A : Nat → Prop} (F : CallFix p m c cX9_count 4 s args wsX9_count RX9) (hr : meth.sig.returnType = (some .int)) (hlk : meth.locks = false) (hK : va_K G.1 vwCl (tyl G) s) (out : Int32 × St) (kb : St → Int32 → Int32 → Int32 → Option (Int32 × St)) (Kb : ∀ (S : St) (x1 : Int32) (x2 : Int32) (x3 : Int32) (H : Heap) (locs : List Loc) (ls : Array Slot), Wd shM idsM G A S H → va_S A s.heap H locs → lv_has ls 4 [(0, .ref (G.2.2 0 0)), (1, .int x1), (2, .int x2), (3, .int x3)] → kb S x1 x2 x3 = some out → W p l e rm_X9_count s m args below meth c H locs 0 0 (MQ below (QI shM idsM G A out) args s 0 0 A) (F0 m 104 ls [])) : ∀ (S : St) (x1 : Int32) (x3 : Int32) (y0 : Int32) (y1 : Int32) (H : Heap) (locs : List Loc) (ls : Array Slot), Wd shM idsM G A S H → va_S A s.heap H locs → lv_has ls 4 [(0, .ref (G.2.2 0 0)), (1, .int x1), (3, .int x3)] → j_X9_count_144 kb S x1 x3 y0 y1 = some out → W p l e rm_X9_count s m args below meth c H locs 0 0 (MQ below (QI shM idsM G A out) args s 0 0 A) (F0 m 144 ls [.int y1, .int y0]) := by
  intro S x1 x3 y0 y1 H locs ls hW hS hl h
  unfold j_X9_count_144 at h
  refine lv_iadd F.1 F.2.1 dX9_count_144 ?_
  refine lv_topi (fun v_17 ev_17 => ?_)
  have h := lt_n ev_17 h
  refine lv_istore_n (lv' := [(2, .int v_17), (0, .ref (G.2.2 0 0)), (1, .int x1), (3, .int x3)]) F.1 F.2.1 dX9_count_145 rfl hl (by decide) rfl (fun ls hl => ?_)
  obtain ⟨v_18, ev_18⟩ : ∃ y : Int32, y = x3 + 1 := ⟨_, rfl⟩
  have h := lt_n ev_18 h
  refine lv_iinc (v := v_18) (lv' := [(3, .int v_18), (2, .int v_17), (0, .ref (G.2.2 0 0)), (1, .int x1)]) F.1 F.2.1 dX9_count_146 hl (k := 3) rfl (by rw [ev_18]; rfl) (by decide) rfl (fun ls hl => ?_)
  refine lv_goto (tgt := 104) F.1 F.2.1 dX9_count_149 (by decide) ?_
  exact Kb _ _ _ _ _ _ _  hW hS (lv_sub hl [2, 3, 1, 0] rfl) h
set_option maxHeartbeats 4000000 in
set_option maxRecDepth 100000 in
theorem w_X9_count_143 {p : Program} {l : Launch} {e : Env} {s : State} {m : MethodId} {args : Array Value} {below : List Frame} {meth : Method} {c : Code} {G : GT} {A : Nat → Prop} (F : CallFix p m c cX9_count 4 s args wsX9_count RX9) (hr : meth.sig.returnType = (some .int)) (hlk : meth.locks = false) (hK : va_K G.1 vwCl (tyl G) s) (out : Int32 × St) (kb : St → Int32 → Int32 → Int32 → Option (Int32 × St)) (Kb : ∀ (S : St) (x1 : Int32) (x2 : Int32) (x3 : Int32) (H : Heap) (locs : List Loc) (ls : Array Slot), Wd shM idsM G A S H → va_S A s.heap H locs → lv_has ls 4 [(0, .ref (G.2.2 0 0)), (1, .int x1), (2, .int x2), (3, .int x3)] → kb S x1 x2 x3 = some out → W p l e rm_X9_count s m args below meth c H locs 0 0 (MQ below (QI shM idsM G A out) args s 0 0 A) (F0 m 104 ls [])) : ∀ (S : St) (x1 : Int32) (x3 : Int32) (y0 : Int32) (H : Heap) (locs : List Loc) (ls : Array Slot), Wd shM idsM G A S H → va_S A s.heap H locs → lv_has ls 4 [(0, .ref (G.2.2 0 0)), (1, .int x1), (3, .int x3)] → j_X9_count_143 kb S x1 x3 y0 = some out → W p l e rm_X9_count s m args below meth c H locs 0 0 (MQ below (QI shM idsM G A out) args s 0 0 A) (F0 m 143 ls [.int y0]) := by
  intro S x1 x3 y0 H locs ls hW hS hl h
  unfold j_X9_count_143 at h
  refine lv_iconst (v := 0) F.1 F.2.1 dX9_count_143 (by decide) ?_
  exact w_X9_count_144 F hr hlk hK out kb Kb _ _ _ _ _ _ _ _  hW hS hl h
set_option maxHeartbeats 4000000 in
set_option maxRecDepth 100000 in
theorem w_X9_count_139 {p : Program} {l : Launch} {e : Env} {s : State} {m : MethodId} {args : Array Value} {below : List Frame} {meth : Method} {c : Code} {G : GT} {A : Nat → Prop} (F : CallFix p m c cX9_count 4 s args wsX9_count RX9) (hr : meth.sig.returnType = (some .int)) (hlk : meth.locks = false) (hK : va_K G.1 vwCl (tyl G) s) (out : Int32 × St) (kb : St → Int32 → Int32 → Int32 → Option (Int32 × St)) (Kb : ∀ (S : St) (x1 : Int32) (x2 : Int32) (x3 : Int32) (H : Heap) (locs : List Loc) (ls : Array Slot), Wd shM idsM G A S H → va_S A s.heap H locs → lv_has ls 4 [(0, .ref (G.2.2 0 0)), (1, .int x1), (2, .int x2), (3, .int x3)] → kb S x1 x2 x3 = some out → W p l e rm_X9_count s m args below meth c H locs 0 0 (MQ below (QI shM idsM G A out) args s 0 0 A) (F0 m 104 ls [])) : ∀ (S : St) (x1 : Int32) (x3 : Int32) (y0 : Int32) (H : Heap) (locs : List Loc) (ls : Array Slot), Wd shM idsM G A S H → va_S A s.heap H locs → lv_has ls 4 [(0, .ref (G.2.2 0 0)), (1, .int x1), (3, .int x3)] → j_X9_count_139 kb S x1 x3 y0 = some out → W p l e rm_X9_count s m args below meth c H locs 0 0 (MQ below (QI shM idsM G A out) args s 0 0 A) (F0 m 139 ls [.int y0]) := by
  intro S x1 x3 y0 H locs ls hW hS hl h
  unfold j_X9_count_139 at h
  refine lv_iconst (v := 1) F.1 F.2.1 dX9_count_139 (by decide) ?_
  refine lv_goto (tgt := 144) F.1 F.2.1 dX9_count_140 (by decide) ?_
  exact w_X9_count_144 F hr hlk hK out kb Kb _ _ _ _ _ _ _ _  hW hS hl h
set_option maxHeartbeats 4000000 in
set_option maxRecDepth 100000 in
theorem w_X9_count_104 {p : Program} {l : Launch} {e : Env} {s : State} {m : MethodId} {args : Array Value} {below : List Frame} {meth : Method} {c : Code} {G : GT} {A : Nat → Prop} (F : CallFix p m c cX9_count 4 s args wsX9_count RX9) (hr : meth.sig.returnType = (some .int)) (hlk : meth.locks = false) (hK : va_K G.1 vwCl (tyl G) s) (out : Int32 × St) : ∀ n : Nat, ∀ (S : St) (x1 : Int32) (x2 : Int32) (x3 : Int32) (H : Heap) (locs : List Loc) (ls : Array Slot), Wd shM idsM G A S H → va_S A s.heap H locs → lv_has ls 4 [(0, .ref (G.2.2 0 0)), (1, .int x1), (2, .int x2), (3, .int x3)] → l_X9_count_104 n S x1 x2 x3 = some out → W p l e rm_X9_count s m args below meth c H locs 0 0 (MQ below (QI shM idsM G A out) args s 0 0 A) (F0 m 104 ls []) := by
  intro n
  induction n with
  | zero =>
    intro S x1 x2 x3 H locs ls hW hS hl h
    cases h
  | succ n Kb =>
    generalize hkb : l_X9_count_104 n = kb at Kb
    intro S x1 x2 x3 H locs ls hW hS hl h
    rw [show l_X9_count_104 (n + 1) = b_X9_count_104 (l_X9_count_104 n) from rfl, hkb] at h
    unfold b_X9_count_104 at h
    refine lv_iload_n F.1 F.2.1 dX9_count_104 rfl (lv_at hl 3 rfl) ?_
    refine lv_aload_n F.1 F.2.1 dX9_count_105 rfl (lv_at hl 0 rfl) ?_
    refine rw_get (q0 := 0) F hK hW idM_0 rfl rfl in_X9_count_X9 11 (by decide) lk_X9_count_163 rfl dX9_count_106 ?_
    refine lv_icmp_ge (tgt := 152) F.1 F.2.1 dX9_count_109 (by decide) (fun c_12 => ?_) (fun c_12 => ?_)
    · have h := (if_pos c_12).symm.trans h
      refine lv_iload_n F.1 F.2.1 dX9_count_152 rfl (lv_at hl 2 rfl) ?_
      exact rw_ret F hr hlk hK hW hS h dX9_count_153
    · have h := (if_neg c_12).symm.trans h
      refine lv_iload_n F.1 F.2.1 dX9_count_112 rfl (lv_at hl 2 rfl) ?_
      refine lv_iload_n F.1 F.2.1 dX9_count_113 rfl (lv_at hl 1 rfl) ?_
      refine lv_iconst (v := 4) F.1 F.2.1 dX9_count_114 (by decide) ?_
      refine lv_icmp_ne (tgt := 130) F.1 F.2.1 dX9_count_115 (by decide) (fun c_13 => ?_) (fun c_13 => ?_)
      · have h := (if_neg c_13).symm.trans h
        refine lv_aload_n F.1 F.2.1 dX9_count_130 rfl (lv_at hl 0 rfl) ?_
        refine rw_get (q0 := 0) F hK hW idM_0 rfl rfl in_X9_count_X9 18 (by decide) lk_X9_count_50 rfl dX9_count_131 ?_
        refine lv_iload_n F.1 F.2.1 dX9_count_134 rfl (lv_at hl 3 rfl) ?_
        obtain ⟨b_14, h⟩ := gd_some h
        refine rw_zald (q0 := 14) F hK hW idM_14 (fun _ => rfl) (ix_in b_14) dX9_count_135 ?_
        refine lv_topi (fun v_15 ev_15 => ?_)
        have h := lt_n ev_15 h
        refine lv_if_eq (tgt := 143) F.1 F.2.1 dX9_count_136 (by decide) (fun c_16 => ?_) (fun c_16 => ?_)
        · have h := (if_pos c_16).symm.trans h
          exact w_X9_count_143 F hr hlk hK out kb Kb _ _ _ _ _ _ _  hW hS (lv_sub hl [0, 1, 3] rfl) h
        · have h := (if_neg c_16).symm.trans h
          exact w_X9_count_139 F hr hlk hK out kb Kb _ _ _ _ _ _ _  hW hS (lv_sub hl [0, 1, 3] rfl) h
      · have h := (if_pos c_13).symm.trans h
        refine lv_aload_n F.1 F.2.1 dX9_count_118 rfl (lv_at hl 0 rfl) ?_
        refine rw_get (q0 := 0) F hK hW idM_0 rfl rfl in_X9_count_X9 17 (by decide) lk_X9_count_46 rfl dX9_count_119 ?_
        refine lv_iload_n F.1 F.2.1 dX9_count_122 rfl (lv_at hl 3 rfl) ?_
        obtain ⟨b_19, h⟩ := gd_some h
        refine rw_zald (q0 := 13) F hK hW idM_13 (fun _ => rfl) (ix_in b_19) dX9_count_123 ?_
        refine lv_topi (fun v_20 ev_20 => ?_)
        have h := lt_n ev_20 h
        refine lv_if_eq (tgt := 143) F.1 F.2.1 dX9_count_124 (by decide) (fun c_21 => ?_) (fun c_21 => ?_)
        · have h := (if_pos c_21).symm.trans h
          exact w_X9_count_143 F hr hlk hK out kb Kb _ _ _ _ _ _ _  hW hS (lv_sub hl [0, 1, 3] rfl) h
        · have h := (if_neg c_21).symm.trans h
          refine lv_goto (tgt := 139) F.1 F.2.1 dX9_count_127 (by decide) ?_
          exact w_X9_count_139 F hr hlk hK out kb Kb _ _ _ _ _ _ _  hW hS (lv_sub hl [0, 1, 3] rfl) h
set_option maxHeartbeats 4000000 in
set_option maxRecDepth 100000 in
theorem w_X9_count_179 {p : Program} {l : Launch} {e : Env} {s : State} {m : MethodId} {args : Array Value} {below : List Frame} {meth : Method} {c : Code} {G : GT} {A : Nat → Prop} (F : CallFix p m c cX9_count 4 s args wsX9_count RX9) (hr : meth.sig.returnType = (some .int)) (hlk : meth.locks = false) (hK : va_K G.1 vwCl (tyl G) s) (out : Int32 × St) (kb : St → Int32 → Int32 → Option (Int32 × St)) (Kb : ∀ (S : St) (x2 : Int32) (x3 : Int32) (H : Heap) (locs : List Loc) (ls : Array Slot), Wd shM idsM G A S H → va_S A s.heap H locs → lv_has ls 4 [(0, .ref (G.2.2 0 0)), (2, .int x2), (3, .int x3)] → kb S x2 x3 = some out → W p l e rm_X9_count s m args below meth c H locs 0 0 (MQ below (QI shM idsM G A out) args s 0 0 A) (F0 m 156 ls [])) : ∀ (S : St) (x3 : Int32) (y0 : Int32) (y1 : Int32) (H : Heap) (locs : List Loc) (ls : Array Slot), Wd shM idsM G A S H → va_S A s.heap H locs → lv_has ls 4 [(0, .ref (G.2.2 0 0)), (3, .int x3)] → j_X9_count_179 kb S x3 y0 y1 = some out → W p l e rm_X9_count s m args below meth c H locs 0 0 (MQ below (QI shM idsM G A out) args s 0 0 A) (F0 m 179 ls [.int y1, .int y0]) := by
  intro S x3 y0 y1 H locs ls hW hS hl h
  unfold j_X9_count_179 at h
  refine lv_iadd F.1 F.2.1 dX9_count_179 ?_
  refine lv_topi (fun v_28 ev_28 => ?_)
  have h := lt_n ev_28 h
  refine lv_istore_n (lv' := [(2, .int v_28), (0, .ref (G.2.2 0 0)), (3, .int x3)]) F.1 F.2.1 dX9_count_180 rfl hl (by decide) rfl (fun ls hl => ?_)
  obtain ⟨v_29, ev_29⟩ : ∃ y : Int32, y = x3 + 1 := ⟨_, rfl⟩
  have h := lt_n ev_29 h
  refine lv_iinc (v := v_29) (lv' := [(3, .int v_29), (2, .int v_28), (0, .ref (G.2.2 0 0))]) F.1 F.2.1 dX9_count_181 hl (k := 2) rfl (by rw [ev_29]; rfl) (by decide) rfl (fun ls hl => ?_)
  refine lv_goto (tgt := 156) F.1 F.2.1 dX9_count_184 (by decide) ?_
  exact Kb _ _ _ _ _ _  hW hS (lv_sub hl [2, 1, 0] rfl) h
set_option maxHeartbeats 4000000 in
set_option maxRecDepth 100000 in
theorem w_X9_count_156 {p : Program} {l : Launch} {e : Env} {s : State} {m : MethodId} {args : Array Value} {below : List Frame} {meth : Method} {c : Code} {G : GT} {A : Nat → Prop} (F : CallFix p m c cX9_count 4 s args wsX9_count RX9) (hr : meth.sig.returnType = (some .int)) (hlk : meth.locks = false) (hK : va_K G.1 vwCl (tyl G) s) (out : Int32 × St) : ∀ n : Nat, ∀ (S : St) (x2 : Int32) (x3 : Int32) (H : Heap) (locs : List Loc) (ls : Array Slot), Wd shM idsM G A S H → va_S A s.heap H locs → lv_has ls 4 [(0, .ref (G.2.2 0 0)), (2, .int x2), (3, .int x3)] → l_X9_count_156 n S x2 x3 = some out → W p l e rm_X9_count s m args below meth c H locs 0 0 (MQ below (QI shM idsM G A out) args s 0 0 A) (F0 m 156 ls []) := by
  intro n
  induction n with
  | zero =>
    intro S x2 x3 H locs ls hW hS hl h
    cases h
  | succ n Kb =>
    generalize hkb : l_X9_count_156 n = kb at Kb
    intro S x2 x3 H locs ls hW hS hl h
    rw [show l_X9_count_156 (n + 1) = b_X9_count_156 (l_X9_count_156 n) from rfl, hkb] at h
    unfold b_X9_count_156 at h
    refine lv_iload_n F.1 F.2.1 dX9_count_156 rfl (lv_at hl 2 rfl) ?_
    refine lv_aload_n F.1 F.2.1 dX9_count_157 rfl (lv_at hl 0 rfl) ?_
    refine rw_get (q0 := 0) F hK hW idM_0 rfl rfl in_X9_count_X9 22 (by decide) lk_X9_count_222 rfl dX9_count_158 ?_
    refine lv_icmp_ge (tgt := 187) F.1 F.2.1 dX9_count_161 (by decide) (fun c_24 => ?_) (fun c_24 => ?_)
    · have h := (if_pos c_24).symm.trans h
      refine lv_iload_n F.1 F.2.1 dX9_count_187 rfl (lv_at hl 1 rfl) ?_
      exact rw_ret F hr hlk hK hW hS h dX9_count_188
    · have h := (if_neg c_24).symm.trans h
      refine lv_iload_n F.1 F.2.1 dX9_count_164 rfl (lv_at hl 1 rfl) ?_
      refine lv_aload_n F.1 F.2.1 dX9_count_165 rfl (lv_at hl 0 rfl) ?_
      refine rw_get (q0 := 0) F hK hW idM_0 rfl rfl in_X9_count_X9 23 (by decide) lk_X9_count_56 rfl dX9_count_166 ?_
      refine lv_iload_n F.1 F.2.1 dX9_count_169 rfl (lv_at hl 2 rfl) ?_
      obtain ⟨b_25, h⟩ := gd_some h
      refine rw_zald (q0 := 16) F hK hW idM_16 (fun _ => rfl) (ix_in b_25) dX9_count_170 ?_
      refine lv_topi (fun v_26 ev_26 => ?_)
      have h := lt_n ev_26 h
      refine lv_if_eq (tgt := 178) F.1 F.2.1 dX9_count_171 (by decide) (fun c_27 => ?_) (fun c_27 => ?_)
      · have h := (if_pos c_27).symm.trans h
        refine lv_iconst (v := 0) F.1 F.2.1 dX9_count_178 (by decide) ?_
        exact w_X9_count_179 F hr hlk hK out kb Kb _ _ _ _ _ _ _  hW hS (lv_sub hl [0, 2] rfl) h
      · have h := (if_neg c_27).symm.trans h
        refine lv_iconst (v := 1) F.1 F.2.1 dX9_count_174 (by decide) ?_
        refine lv_goto (tgt := 179) F.1 F.2.1 dX9_count_175 (by decide) ?_
        exact w_X9_count_179 F hr hlk hK out kb Kb _ _ _ _ _ _ _  hW hS (lv_sub hl [0, 2] rfl) h
set_option maxHeartbeats 4000000 in
set_option maxRecDepth 100000 in
theorem w_X9_count_210 {p : Program} {l : Launch} {e : Env} {s : State} {m : MethodId} {args : Array Value} {below : List Frame} {meth : Method} {c : Code} {G : GT} {A : Nat → Prop} (F : CallFix p m c cX9_count 4 s args wsX9_count RX9) (hr : meth.sig.returnType = (some .int)) (hlk : meth.locks = false) (hK : va_K G.1 vwCl (tyl G) s) (out : Int32 × St) : ∀ (S : St) (y0 : Int32) (H : Heap) (locs : List Loc) (ls : Array Slot), Wd shM idsM G A S H → va_S A s.heap H locs → lv_has ls 4 [] → j_X9_count_210 S y0 = some out → W p l e rm_X9_count s m args below meth c H locs 0 0 (MQ below (QI shM idsM G A out) args s 0 0 A) (F0 m 210 ls [.int y0]) := by
  intro S y0 H locs ls hW hS hl h
  unfold j_X9_count_210 at h
  exact rw_ret F hr hlk hK hW hS h dX9_count_210
set_option maxHeartbeats 4000000 in
set_option maxRecDepth 100000 in
theorem c_X9_count (l : Launch) (G : GT) (A : Nat → Prop) (a0 : Int32) (S : St) (out : Int32 × St) (h : f_X9_count a0 S = some out) : Met l yX9_count wsX9_count rm_X9_count (va_Pc [.ref (G.2.2 0 0), .int a0] (WD shM idsM G A S)) (QI shM idsM G A out) 0 0 A := by
  refine Met.ofW (cc := cX9_count) (maxL := 4) (ret := (some .int)) (by decide) rfl ?_
  intro p e s m args below meth c s₁ B hml hv
  obtain ⟨rfl, hW, hK⟩ := hv
  have F : CallFix p m c cX9_count 4 s _ wsX9_count RX9 := ⟨B.exec, B.bytes, hml, findClass_of_methodNamed B.named, atoms_spec (ws := wsX9_count) B.pre⟩
  have hr := B.returns
  have hlk := B.notSynchronized
  have hS : va_S A s.heap s.heap [] := va_S.rf
  have hl := lv_entry ([.ref (G.2.2 0 0), .int a0]) (n := 4) (Nat.le_of_ble_eq_true rfl)
  rw [lg_entry_eq]
  generalize (lg_sl ([.ref (G.2.2 0 0), .int a0]) ++ List.replicate (4 - (lg_sl ([.ref (G.2.2 0 0), .int a0])).length) Slot.unset).toArray = ls at hl ⊢
  have hl : lv_has ls 4 [(0, .ref (G.2.2 0 0)), (1, .int a0)] := hl
  unfold f_X9_count at h
  refine lv_iconst (v := 0) F.1 F.2.1 dX9_count_0 (by decide) ?_
  refine lv_istore_n (lv' := [(2, .int 0), (0, .ref (G.2.2 0 0)), (1, .int a0)]) F.1 F.2.1 dX9_count_1 rfl hl (by decide) rfl (fun ls hl => ?_)
  refine lv_iload_n F.1 F.2.1 dX9_count_2 rfl (lv_at hl 2 rfl) ?_
  by_cases c_1 : a0 = 0
  · have h := (if_pos c_1).symm.trans h
    refine lv_tableIn (off := 49) (tgt := 52) F.1 F.2.1 dX9_count_3 (by rw [c_1]; decide) (by rw [c_1]; decide) (by rw [c_1]; rfl) (by decide) ?_
    refine lv_aload_n F.1 F.2.1 dX9_count_52 rfl (lv_at hl 1 rfl) ?_
    refine rw_get (q0 := 0) F hK hW idM_0 rfl rfl in_X9_count_X9 0 (by decide) lk_X9_count_136 rfl dX9_count_53 ?_
    exact rw_ret F hr hlk hK hW hS h dX9_count_56
  · have h := (if_neg c_1).symm.trans h
    by_cases c_2 : a0 = 1
    · have h := (if_pos c_2).symm.trans h
      refine lv_tableIn (off := 54) (tgt := 57) F.1 F.2.1 dX9_count_3 (by rw [c_2]; decide) (by rw [c_2]; decide) (by rw [c_2]; rfl) (by decide) ?_
      refine lv_iconst (v := 0) F.1 F.2.1 dX9_count_57 (by decide) ?_
      refine lv_istore_n (lv' := [(3, .int 0), (2, .int 0), (0, .ref (G.2.2 0 0)), (1, .int a0)]) F.1 F.2.1 dX9_count_58 rfl hl (by decide) rfl (fun ls hl => ?_)
      refine w_X9_count_59 F hr hlk hK out   5000 _ _ _ _ _ _  hW hS (lv_sub hl [2, 1, 0] rfl) h
    · have h := (if_neg c_2).symm.trans h
      by_cases c_9 : a0 = 2
      · have h := (if_pos c_9).symm.trans h
        refine lv_tableIn (off := 89) (tgt := 92) F.1 F.2.1 dX9_count_3 (by rw [c_9]; decide) (by rw [c_9]; decide) (by rw [c_9]; rfl) (by decide) ?_
        refine lv_aload_n F.1 F.2.1 dX9_count_92 rfl (lv_at hl 1 rfl) ?_
        refine rw_get (q0 := 0) F hK hW idM_0 rfl rfl in_X9_count_X9 5 (by decide) lk_X9_count_160 rfl dX9_count_93 ?_
        exact rw_ret F hr hlk hK hW hS h dX9_count_96
      · have h := (if_neg c_9).symm.trans h
        by_cases c_10 : a0 = 3
        · have h := (if_pos c_10).symm.trans h
          refine lv_tableIn (off := 94) (tgt := 97) F.1 F.2.1 dX9_count_3 (by rw [c_10]; decide) (by rw [c_10]; decide) (by rw [c_10]; rfl) (by decide) ?_
          refine lv_aload_n F.1 F.2.1 dX9_count_97 rfl (lv_at hl 1 rfl) ?_
          refine rw_get (q0 := 0) F hK hW idM_0 rfl rfl in_X9_count_X9 11 (by decide) lk_X9_count_163 rfl dX9_count_98 ?_
          exact rw_ret F hr hlk hK hW hS h dX9_count_101
        · have h := (if_neg c_10).symm.trans h
          by_cases c_11 : a0 = 4
          · have h := (if_pos c_11).symm.trans h
            refine lv_tableIn (off := 99) (tgt := 102) F.1 F.2.1 dX9_count_3 (by rw [c_11]; decide) (by rw [c_11]; decide) (by rw [c_11]; rfl) (by decide) ?_
            refine lv_iconst (v := 0) F.1 F.2.1 dX9_count_102 (by decide) ?_
            refine lv_istore_n (lv' := [(3, .int 0), (2, .int 0), (0, .ref (G.2.2 0 0)), (1, .int a0)]) F.1 F.2.1 dX9_count_103 rfl hl (by decide) rfl (fun ls hl => ?_)
            refine w_X9_count_104 F hr hlk hK out   5000 _ _ _ _ _ _ _  hW hS (lv_sub hl [2, 3, 1, 0] rfl) h
          · have h := (if_neg c_11).symm.trans h
            by_cases c_22 : a0 = 5
            · have h := (if_pos c_22).symm.trans h
              refine lv_tableIn (off := 99) (tgt := 102) F.1 F.2.1 dX9_count_3 (by rw [c_22]; decide) (by rw [c_22]; decide) (by rw [c_22]; rfl) (by decide) ?_
              refine lv_iconst (v := 0) F.1 F.2.1 dX9_count_102 (by decide) ?_
              refine lv_istore_n (lv' := [(3, .int 0), (2, .int 0), (0, .ref (G.2.2 0 0)), (1, .int a0)]) F.1 F.2.1 dX9_count_103 rfl hl (by decide) rfl (fun ls hl => ?_)
              refine w_X9_count_104 F hr hlk hK out   5000 _ _ _ _ _ _ _  hW hS (lv_sub hl [2, 3, 1, 0] rfl) h
            · have h := (if_neg c_22).symm.trans h
              by_cases c_23 : a0 = 6
              · have h := (if_pos c_23).symm.trans h
                refine lv_tableIn (off := 151) (tgt := 154) F.1 F.2.1 dX9_count_3 (by rw [c_23]; decide) (by rw [c_23]; decide) (by rw [c_23]; rfl) (by decide) ?_
                refine lv_iconst (v := 0) F.1 F.2.1 dX9_count_154 (by decide) ?_
                refine lv_istore_n (lv' := [(3, .int 0), (2, .int 0), (0, .ref (G.2.2 0 0)), (1, .int a0)]) F.1 F.2.1 dX9_count_155 rfl hl (by decide) rfl (fun ls hl => ?_)
                refine w_X9_count_156 F hr hlk hK out   5000 _ _ _ _ _ _  hW hS (lv_sub hl [2, 1, 0] rfl) h
              · have h := (if_neg c_23).symm.trans h
                by_cases c_30 : a0 = 7
                · have h := (if_pos c_30).symm.trans h
                  refine lv_tableIn (off := 186) (tgt := 189) F.1 F.2.1 dX9_count_3 (by rw [c_30]; decide) (by rw [c_30]; decide) (by rw [c_30]; rfl) (by decide) ?_
                  refine lv_aload_n F.1 F.2.1 dX9_count_189 rfl (lv_at hl 1 rfl) ?_
                  refine rw_get (q0 := 0) F hK hW idM_0 rfl rfl in_X9_count_X9 20 (by decide) lk_X9_count_191 rfl dX9_count_190 ?_
                  exact rw_ret F hr hlk hK hW hS h dX9_count_193
                · have h := (if_neg c_30).symm.trans h
                  by_cases c_31 : a0 = 8
                  · have h := (if_pos c_31).symm.trans h
                    refine lv_tableIn (off := 191) (tgt := 194) F.1 F.2.1 dX9_count_3 (by rw [c_31]; decide) (by rw [c_31]; decide) (by rw [c_31]; rfl) (by decide) ?_
                    refine lv_aload_n F.1 F.2.1 dX9_count_194 rfl (lv_at hl 1 rfl) ?_
                    refine rw_get (q0 := 0) F hK hW idM_0 rfl rfl in_X9_count_X9 10 (by decide) lk_X9_count_132 rfl dX9_count_195 ?_
                    refine lv_if_eq (tgt := 208) F.1 F.2.1 dX9_count_198 (by decide) (fun c_32 => ?_) (fun c_32 => ?_)
                    · have h := (if_pos c_32).symm.trans h
                      refine lv_bipush (v := -2) F.1 F.2.1 dX9_count_208 (by decide) ?_
                      exact w_X9_count_210 F hr hlk hK out  _ _ _ _ _  hW hS (lv_sub hl [] rfl) h
                    · have h := (if_neg c_32).symm.trans h
                      refine lv_aload_n F.1 F.2.1 dX9_count_201 rfl (lv_at hl 1 rfl) ?_
                      refine rw_get (q0 := 0) F hK hW idM_0 rfl rfl in_X9_count_X9 46 (by decide) lk_X9_count_250 rfl dX9_count_202 ?_
                      refine lv_goto (tgt := 210) F.1 F.2.1 dX9_count_205 (by decide) ?_
                      exact w_X9_count_210 F hr hlk hK out  _ _ _ _ _  hW hS (lv_sub hl [] rfl) h
                  · have h := (if_neg c_31).symm.trans h
                    have nc_1 := lv_neT c_1 (a := 0) (by decide)
                    have nc_2 := lv_neT c_2 (a := 1) (by decide)
                    have nc_9 := lv_neT c_9 (a := 2) (by decide)
                    have nc_10 := lv_neT c_10 (a := 3) (by decide)
                    have nc_11 := lv_neT c_11 (a := 4) (by decide)
                    have nc_22 := lv_neT c_22 (a := 5) (by decide)
                    have nc_23 := lv_neT c_23 (a := 6) (by decide)
                    have nc_30 := lv_neT c_30 (a := 7) (by decide)
                    have nc_31 := lv_neT c_31 (a := 8) (by decide)
                    refine lv_tableOut (tgt := 211) F.1 F.2.1 dX9_count_3 (by omega) (by decide) ?_
                    refine lv_iconst (v := -1) F.1 F.2.1 dX9_count_211 (by decide) ?_
                    exact rw_ret F hr hlk hK hW hS h dX9_count_212
/-! CellCoverModel.digest()J -/
abbrev rm_X9_digest : Room := { frames := 1, cells := 0, slots := 0, locals := 22 }
theorem in_X9_digest_X9 : ∀ w ∈ wsX90, w ∈ wsX9_digest := by decide +kernel
theorem lk_X9_digest_276 : Cond.constantLong RX9 276 13 ∈ wsX9_digest := by decide +kernel
theorem lk_X9_digest_163 : Cond.fieldLink RX9 163 "CellCoverModel" "vertices" "I" ∈ wsX9_digest := by decide +kernel
theorem lk_X9_digest_278 : Cond.constantLong RX9 278 31 ∈ wsX9_digest := by decide +kernel
theorem lk_X9_digest_160 : Cond.fieldLink RX9 160 "CellCoverModel" "outputs" "I" ∈ wsX9_digest := by decide +kernel
theorem lk_X9_digest_40 : Cond.fieldLink RX9 40 "CellCoverModel" "vertexOf" "[I" ∈ wsX9_digest := by decide +kernel
theorem lk_X9_digest_22 : Cond.fieldLink RX9 22 "CellCoverModel" "outputOf" "[I" ∈ wsX9_digest := by decide +kernel
theorem lk_X9_digest_222 : Cond.fieldLink RX9 222 "CellCoverModel" "cells" "I" ∈ wsX9_digest := by decide +kernel
theorem lk_X9_digest_56 : Cond.fieldLink RX9 56 "CellCoverModel" "isThere" "[Z" ∈ wsX9_digest := by decide +kernel
theorem lk_X9_digest_59 : Cond.fieldLink RX9 59 "CellCoverModel" "area" "[I" ∈ wsX9_digest := by decide +kernel
theorem lk_X9_digest_62 : Cond.fieldLink RX9 62 "CellCoverModel" "delay" "[I" ∈ wsX9_digest := by decide +kernel
set_option maxHeartbeats 4000000 in
set_option maxRecDepth 100000 in
theorem w_X9_digest_17 {p : Program} {l : Launch} {e : Env} {s : State} {m : MethodId} {args : Array Value} {below : List Frame} {meth : Method} {c : Code} {G : GT} {A : Nat → Prop} (F : CallFix p m c cX9_digest 5 s args wsX9_digest RX9) (hr : meth.sig.returnType = (some .long)) (hlk : meth.locks = false) (hK : va_K G.1 vwCl (tyl G) s) (out : Int64 × St) (k45 : St → Int64 → Int32 → Option (Int64 × St)) (K45 : ∀ (S : St) (x1 : Int64) (x3 : Int32) (H : Heap) (locs : List Loc) (ls : Array Slot), Wd shM idsM G A S H → va_S A s.heap H locs → lv_has ls 5 [(0, .ref (G.2.2 0 0)), (1, .long x1), (3, .int x3)] → k45 S x1 x3 = some out → W p l e rm_X9_digest s m args below meth c H locs 0 0 (MQ below (QL shM idsM G A out) args s 0 0 A) (F0 m 45 ls [])) : ∀ n : Nat, ∀ (S : St) (x1 : Int64) (x3 : Int32) (x4 : Int32) (H : Heap) (locs : List Loc) (ls : Array Slot), Wd shM idsM G A S H → va_S A s.heap H locs → lv_has ls 5 [(0, .ref (G.2.2 0 0)), (1, .long x1), (3, .int x3), (4, .int x4)] → l_X9_digest_17 k45 n S x1 x3 x4 = some out → W p l e rm_X9_digest s m args below meth c H locs 0 0 (MQ below (QL shM idsM G A out) args s 0 0 A) (F0 m 17 ls []) := by
  intro n
  induction n with
  | zero =>
    intro S x1 x3 x4 H locs ls hW hS hl h
    cases h
  | succ n Kb =>
    generalize hkb : l_X9_digest_17 k45 n = kb at Kb
    intro S x1 x3 x4 H locs ls hW hS hl h
    rw [show l_X9_digest_17 k45 (n + 1) = b_X9_digest_17 (l_X9_digest_17 k45 n) k45 from rfl, hkb] at h
    unfold b_X9_digest_17 at h
    refine lv_iload F.1 F.2.1 dX9_digest_17 (lv_at hl 3 rfl) ?_
    refine lv_bipush (v := 6) F.1 F.2.1 dX9_digest_19 (by decide) ?_
    refine lv_icmp_ge (tgt := 45) F.1 F.2.1 dX9_digest_21 (by decide) (fun c_2 => ?_) (fun c_2 => ?_)
    · have h := (if_pos c_2).symm.trans h
      exact K45 _ _ _ _ _ _  hW hS (lv_sub hl [0, 1, 2] rfl) h
    · have h := (if_neg c_2).symm.trans h
      refine lv_ldc2 (v := 31) F.1 F.2.1 F.2.2.2.1 (F.2.2.2.2 _ lk_X9_digest_278) dX9_digest_24 ?_
      refine lv_lload_n F.1 F.2.1 dX9_digest_27 rfl (lv_at hl 1 rfl) ?_
      refine lv_lmul F.1 F.2.1 dX9_digest_28 ?_
      refine lv_aload_n F.1 F.2.1 dX9_digest_29 rfl (lv_at hl 0 rfl) ?_
      refine lv_iload_n F.1 F.2.1 dX9_digest_30 rfl (lv_at hl 2 rfl) ?_
      refine lv_iload F.1 F.2.1 dX9_digest_31 (lv_at hl 3 rfl) ?_
      obtain ⟨r_4, S_5, hq_3, h⟩ := bi_some h
      refine rw_vi F hK hW hS [.int x3, .int x4] (rest := [.long (31 * x1)]) (c_X9_told l G A x3 x4 S (r_4, S_5) hq_3) (cwV 2 F.2.2.2.2 gX9_digest_X9_told rfl rfl rfl (by decide +kernel) ⟨Nat.le_of_ble_eq_true rfl, Nat.le_of_ble_eq_true rfl⟩) (rw_recv (q0 := 0) hK hW idM_0 rfl rfl) rfl hl.1 rfl (Nat.le_of_ble_eq_true rfl) dX9_digest_33 (fun H locs hW hS => ?_)
      refine lv_i2l (v := r_4.toInt64) F.1 F.2.1 dX9_digest_36 rfl ?_
      refine lv_ladd F.1 F.2.1 dX9_digest_37 ?_
      refine lv_topl (fun v_6 ev_6 => ?_)
      have h := lt_n ev_6 h
      refine lv_lstore_n (lv' := [(1, .long v_6), (0, .ref (G.2.2 0 0)), (3, .int x3), (4, .int x4)]) F.1 F.2.1 dX9_digest_38 rfl hl (by decide) rfl (fun ls hl => ?_)
      obtain ⟨v_7, ev_7⟩ : ∃ y : Int32, y = x4 + 1 := ⟨_, rfl⟩
      have h := lt_n ev_7 h
      refine lv_iinc (v := v_7) (lv' := [(4, .int v_7), (1, .long v_6), (0, .ref (G.2.2 0 0)), (3, .int x3)]) F.1 F.2.1 dX9_digest_39 hl (k := 3) rfl (by rw [ev_7]; rfl) (by decide) rfl (fun ls hl => ?_)
      refine lv_goto (tgt := 17) F.1 F.2.1 dX9_digest_42 (by decide) ?_
      exact Kb _ _ _ _ _ _ _  hW hS (lv_sub hl [2, 1, 3, 0] rfl) h
set_option maxHeartbeats 4000000 in
set_option maxRecDepth 100000 in
theorem w_X9_digest_6 {p : Program} {l : Launch} {e : Env} {s : State} {m : MethodId} {args : Array Value} {below : List Frame} {meth : Method} {c : Code} {G : GT} {A : Nat → Prop} (F : CallFix p m c cX9_digest 5 s args wsX9_digest RX9) (hr : meth.sig.returnType = (some .long)) (hlk : meth.locks = false) (hK : va_K G.1 vwCl (tyl G) s) (out : Int64 × St) (k51 : St → Int64 → Option (Int64 × St)) (K51 : ∀ (S : St) (x1 : Int64) (H : Heap) (locs : List Loc) (ls : Array Slot), Wd shM idsM G A S H → va_S A s.heap H locs → lv_has ls 5 [(0, .ref (G.2.2 0 0)), (1, .long x1)] → k51 S x1 = some out → W p l e rm_X9_digest s m args below meth c H locs 0 0 (MQ below (QL shM idsM G A out) args s 0 0 A) (F0 m 51 ls [])) : ∀ n : Nat, ∀ (S : St) (x1 : Int64) (x3 : Int32) (H : Heap) (locs : List Loc) (ls : Array Slot), Wd shM idsM G A S H → va_S A s.heap H locs → lv_has ls 5 [(0, .ref (G.2.2 0 0)), (1, .long x1), (3, .int x3)] → l_X9_digest_6 k51 n S x1 x3 = some out → W p l e rm_X9_digest s m args below meth c H locs 0 0 (MQ below (QL shM idsM G A out) args s 0 0 A) (F0 m 6 ls []) := by
  intro n
  induction n with
  | zero =>
    intro S x1 x3 H locs ls hW hS hl h
    cases h
  | succ n Kb =>
    generalize hkb : l_X9_digest_6 k51 n = kb at Kb
    intro S x1 x3 H locs ls hW hS hl h
    rw [show l_X9_digest_6 k51 (n + 1) = b_X9_digest_6 (l_X9_digest_6 k51 n) k51 from rfl, hkb] at h
    unfold b_X9_digest_6 at h
    refine lv_iload_n F.1 F.2.1 dX9_digest_6 rfl (lv_at hl 2 rfl) ?_
    refine lv_aload_n F.1 F.2.1 dX9_digest_7 rfl (lv_at hl 0 rfl) ?_
    refine rw_get (q0 := 0) F hK hW idM_0 rfl rfl in_X9_digest_X9 11 (by decide) lk_X9_digest_163 rfl dX9_digest_8 ?_
    refine lv_icmp_ge (tgt := 51) F.1 F.2.1 dX9_digest_11 (by decide) (fun c_1 => ?_) (fun c_1 => ?_)
    · have h := (if_pos c_1).symm.trans h
      exact K51 _ _ _ _ _  hW hS (lv_sub hl [0, 1] rfl) h
    · have h := (if_neg c_1).symm.trans h
      refine lv_iconst (v := 0) F.1 F.2.1 dX9_digest_14 (by decide) ?_
      refine lv_istore (lv' := [(4, .int 0), (0, .ref (G.2.2 0 0)), (1, .long x1), (3, .int x3)]) F.1 F.2.1 dX9_digest_15 hl (by decide) rfl (fun ls hl => ?_)
      refine w_X9_digest_17 F hr hlk hK out _ ?_ 5000 _ _ _ _ _ _ _  hW hS (lv_sub hl [1, 2, 3, 0] rfl) h
      · intro S x1 x3 H locs ls hW hS hl h
        obtain ⟨v_8, ev_8⟩ : ∃ y : Int32, y = x3 + 1 := ⟨_, rfl⟩
        have h := lt_n ev_8 h
        refine lv_iinc (v := v_8) (lv' := [(3, .int v_8), (0, .ref (G.2.2 0 0)), (1, .long x1)]) F.1 F.2.1 dX9_digest_45 hl (k := 2) rfl (by rw [ev_8]; rfl) (by decide) rfl (fun ls hl => ?_)
        refine lv_goto (tgt := 6) F.1 F.2.1 dX9_digest_48 (by decide) ?_
        exact Kb _ _ _ _ _ _  hW hS (lv_sub hl [1, 2, 0] rfl) h
set_option maxHeartbeats 4000000 in
set_option maxRecDepth 100000 in
theorem w_X9_digest_53 {p : Program} {l : Launch} {e : Env} {s : State} {m : MethodId} {args : Array Value} {below : List Frame} {meth : Method} {c : Code} {G : GT} {A : Nat → Prop} (F : CallFix p m c cX9_digest 5 s args wsX9_digest RX9) (hr : meth.sig.returnType = (some .long)) (hlk : meth.locks = false) (hK : va_K G.1 vwCl (tyl G) s) (out : Int64 × St) (k86 : St → Int64 → Option (Int64 × St)) (K86 : ∀ (S : St) (x1 : Int64) (H : Heap) (locs : List Loc) (ls : Array Slot), Wd shM idsM G A S H → va_S A s.heap H locs → lv_has ls 5 [(0, .ref (G.2.2 0 0)), (1, .long x1)] → k86 S x1 = some out → W p l e rm_X9_digest s m args below meth c H locs 0 0 (MQ below (QL shM idsM G A out) args s 0 0 A) (F0 m 86 ls [])) : ∀ n : Nat, ∀ (S : St) (x1 : Int64) (x3 : Int32) (H : Heap) (locs : List Loc) (ls : Array Slot), Wd shM idsM G A S H → va_S A s.heap H locs → lv_has ls 5 [(0, .ref (G.2.2 0 0)), (1, .long x1), (3, .int x3)] → l_X9_digest_53 k86 n S x1 x3 = some out → W p l e rm_X9_digest s m args below meth c H locs 0 0 (MQ below (QL shM idsM G A out) args s 0 0 A) (F0 m 53 ls []) := by
  intro n
  induction n with
  | zero =>
    intro S x1 x3 H locs ls hW hS hl h
    cases h
  | succ n Kb =>
    generalize hkb : l_X9_digest_53 k86 n = kb at Kb
    intro S x1 x3 H locs ls hW hS hl h
    rw [show l_X9_digest_53 k86 (n + 1) = b_X9_digest_53 (l_X9_digest_53 k86 n) k86 from rfl, hkb] at h
    unfold b_X9_digest_53 at h
    refine lv_iload_n F.1 F.2.1 dX9_digest_53 rfl (lv_at hl 2 rfl) ?_
    refine lv_aload_n F.1 F.2.1 dX9_digest_54 rfl (lv_at hl 0 rfl) ?_
    refine rw_get (q0 := 0) F hK hW idM_0 rfl rfl in_X9_digest_X9 5 (by decide) lk_X9_digest_160 rfl dX9_digest_55 ?_
    refine lv_icmp_ge (tgt := 86) F.1 F.2.1 dX9_digest_58 (by decide) (fun c_9 => ?_) (fun c_9 => ?_)
    · have h := (if_pos c_9).symm.trans h
      exact K86 _ _ _ _ _  hW hS (lv_sub hl [0, 1] rfl) h
    · have h := (if_neg c_9).symm.trans h
      refine lv_ldc2 (v := 31) F.1 F.2.1 F.2.2.2.1 (F.2.2.2.2 _ lk_X9_digest_278) dX9_digest_61 ?_
      refine lv_lload_n F.1 F.2.1 dX9_digest_64 rfl (lv_at hl 1 rfl) ?_
      refine lv_lmul F.1 F.2.1 dX9_digest_65 ?_
      refine lv_aload_n F.1 F.2.1 dX9_digest_66 rfl (lv_at hl 0 rfl) ?_
      refine rw_get (q0 := 0) F hK hW idM_0 rfl rfl in_X9_digest_X9 15 (by decide) lk_X9_digest_40 rfl dX9_digest_67 ?_
      refine lv_aload_n F.1 F.2.1 dX9_digest_70 rfl (lv_at hl 0 rfl) ?_
      refine rw_get (q0 := 0) F hK hW idM_0 rfl rfl in_X9_digest_X9 6 (by decide) lk_X9_digest_22 rfl dX9_digest_71 ?_
      refine lv_iload_n F.1 F.2.1 dX9_digest_74 rfl (lv_at hl 2 rfl) ?_
      obtain ⟨b_10, h⟩ := gd_some h
      refine rw_iald (q0 := 5) F hK hW idM_5 (fun _ => rfl) (ix_in b_10) dX9_digest_75 ?_
      refine lv_topi (fun v_11 ev_11 => ?_)
      have h := lt_n ev_11 h
      obtain ⟨b_12, h⟩ := gd_some h
      refine rw_iald (q0 := 11) F hK hW idM_11 (fun _ => rfl) (ix_in b_12) dX9_digest_76 ?_
      refine lv_topi (fun v_13 ev_13 => ?_)
      have h := lt_n ev_13 h
      refine lv_i2l (v := v_13.toInt64) F.1 F.2.1 dX9_digest_77 rfl ?_
      refine lv_ladd F.1 F.2.1 dX9_digest_78 ?_
      refine lv_topl (fun v_14 ev_14 => ?_)
      have h := lt_n ev_14 h
      refine lv_lstore_n (lv' := [(1, .long v_14), (0, .ref (G.2.2 0 0)), (3, .int x3)]) F.1 F.2.1 dX9_digest_79 rfl hl (by decide) rfl (fun ls hl => ?_)
      obtain ⟨v_15, ev_15⟩ : ∃ y : Int32, y = x3 + 1 := ⟨_, rfl⟩
      have h := lt_n ev_15 h
      refine lv_iinc (v := v_15) (lv' := [(3, .int v_15), (1, .long v_14), (0, .ref (G.2.2 0 0))]) F.1 F.2.1 dX9_digest_80 hl (k := 2) rfl (by rw [ev_15]; rfl) (by decide) rfl (fun ls hl => ?_)
      refine lv_goto (tgt := 53) F.1 F.2.1 dX9_digest_83 (by decide) ?_
      exact Kb _ _ _ _ _ _  hW hS (lv_sub hl [2, 1, 0] rfl) h
set_option maxHeartbeats 4000000 in
set_option maxRecDepth 100000 in
theorem w_X9_digest_121 {p : Program} {l : Launch} {e : Env} {s : State} {m : MethodId} {args : Array Value} {below : List Frame} {meth : Method} {c : Code} {G : GT} {A : Nat → Prop} (F : CallFix p m c cX9_digest 5 s args wsX9_digest RX9) (hr : meth.sig.returnType = (some .long)) (hlk : meth.locks = false) (hK : va_K G.1 vwCl (tyl G) s) (out : Int64 × St) (kb : St → Int64 → Int32 → Option (Int64 × St)) (Kb : ∀ (S : St) (x1 : Int64) (x3 : Int32) (H : Heap) (locs : List Loc) (ls : Array Slot), Wd shM idsM G A S H → va_S A s.heap H locs → lv_has ls 5 [(0, .ref (G.2.2 0 0)), (1, .long x1), (3, .int x3)] → kb S x1 x3 = some out → W p l e rm_X9_digest s m args below meth c H locs 0 0 (MQ below (QL shM idsM G A out) args s 0 0 A) (F0 m 88 ls [])) : ∀ (S : St) (x3 : Int32) (y0 : Int64) (y1 : Int64) (y2 : Int64) (y3 : Int64) (H : Heap) (locs : List Loc) (ls : Array Slot), Wd shM idsM G A S H → va_S A s.heap H locs → lv_has ls 5 [(0, .ref (G.2.2 0 0)), (3, .int x3)] → j_X9_digest_121 kb S x3 y0 y1 y2 y3 = some out → W p l e rm_X9_digest s m args below meth c H locs 0 0 (MQ below (QL shM idsM G A out) args s 0 0 A) (F0 m 121 ls [.long y3, .long y2, .long y1, .long y0]) := by
  intro S x3 y0 y1 y2 y3 H locs ls hW hS hl h
  unfold j_X9_digest_121 at h
  refine lv_ladd F.1 F.2.1 dX9_digest_121 ?_
  refine lv_lmul F.1 F.2.1 dX9_digest_122 ?_
  refine lv_aload_n F.1 F.2.1 dX9_digest_123 rfl (lv_at hl 0 rfl) ?_
  refine rw_get (q0 := 0) F hK hW idM_0 rfl rfl in_X9_digest_X9 24 (by decide) lk_X9_digest_59 rfl dX9_digest_124 ?_
  refine lv_iload_n F.1 F.2.1 dX9_digest_127 rfl (lv_at hl 1 rfl) ?_
  obtain ⟨b_20, h⟩ := gd_some h
  refine rw_iald (q0 := 17) F hK hW idM_17 (fun _ => rfl) (ix_in b_20) dX9_digest_128 ?_
  refine lv_topi (fun v_21 ev_21 => ?_)
  have h := lt_n ev_21 h
  refine lv_i2l (v := v_21.toInt64) F.1 F.2.1 dX9_digest_129 rfl ?_
  refine lv_ladd F.1 F.2.1 dX9_digest_130 ?_
  refine lv_lmul F.1 F.2.1 dX9_digest_131 ?_
  refine lv_aload_n F.1 F.2.1 dX9_digest_132 rfl (lv_at hl 0 rfl) ?_
  refine rw_get (q0 := 0) F hK hW idM_0 rfl rfl in_X9_digest_X9 25 (by decide) lk_X9_digest_62 rfl dX9_digest_133 ?_
  refine lv_iload_n F.1 F.2.1 dX9_digest_136 rfl (lv_at hl 1 rfl) ?_
  obtain ⟨b_22, h⟩ := gd_some h
  refine rw_iald (q0 := 18) F hK hW idM_18 (fun _ => rfl) (ix_in b_22) dX9_digest_137 ?_
  refine lv_topi (fun v_23 ev_23 => ?_)
  have h := lt_n ev_23 h
  refine lv_i2l (v := v_23.toInt64) F.1 F.2.1 dX9_digest_138 rfl ?_
  refine lv_ladd F.1 F.2.1 dX9_digest_139 ?_
  refine lv_topl (fun v_24 ev_24 => ?_)
  have h := lt_n ev_24 h
  refine lv_lstore_n (lv' := [(1, .long v_24), (0, .ref (G.2.2 0 0)), (3, .int x3)]) F.1 F.2.1 dX9_digest_140 rfl hl (by decide) rfl (fun ls hl => ?_)
  obtain ⟨v_25, ev_25⟩ : ∃ y : Int32, y = x3 + 1 := ⟨_, rfl⟩
  have h := lt_n ev_25 h
  refine lv_iinc (v := v_25) (lv' := [(3, .int v_25), (1, .long v_24), (0, .ref (G.2.2 0 0))]) F.1 F.2.1 dX9_digest_141 hl (k := 2) rfl (by rw [ev_25]; rfl) (by decide) rfl (fun ls hl => ?_)
  refine lv_goto (tgt := 88) F.1 F.2.1 dX9_digest_144 (by decide) ?_
  exact Kb _ _ _ _ _ _  hW hS (lv_sub hl [2, 1, 0] rfl) h
set_option maxHeartbeats 4000000 in
set_option maxRecDepth 100000 in
theorem w_X9_digest_88 {p : Program} {l : Launch} {e : Env} {s : State} {m : MethodId} {args : Array Value} {below : List Frame} {meth : Method} {c : Code} {G : GT} {A : Nat → Prop} (F : CallFix p m c cX9_digest 5 s args wsX9_digest RX9) (hr : meth.sig.returnType = (some .long)) (hlk : meth.locks = false) (hK : va_K G.1 vwCl (tyl G) s) (out : Int64 × St) : ∀ n : Nat, ∀ (S : St) (x1 : Int64) (x3 : Int32) (H : Heap) (locs : List Loc) (ls : Array Slot), Wd shM idsM G A S H → va_S A s.heap H locs → lv_has ls 5 [(0, .ref (G.2.2 0 0)), (1, .long x1), (3, .int x3)] → l_X9_digest_88 n S x1 x3 = some out → W p l e rm_X9_digest s m args below meth c H locs 0 0 (MQ below (QL shM idsM G A out) args s 0 0 A) (F0 m 88 ls []) := by
  intro n
  induction n with
  | zero =>
    intro S x1 x3 H locs ls hW hS hl h
    cases h
  | succ n Kb =>
    generalize hkb : l_X9_digest_88 n = kb at Kb
    intro S x1 x3 H locs ls hW hS hl h
    rw [show l_X9_digest_88 (n + 1) = b_X9_digest_88 (l_X9_digest_88 n) from rfl, hkb] at h
    unfold b_X9_digest_88 at h
    refine lv_iload_n F.1 F.2.1 dX9_digest_88 rfl (lv_at hl 2 rfl) ?_
    refine lv_aload_n F.1 F.2.1 dX9_digest_89 rfl (lv_at hl 0 rfl) ?_
    refine rw_get (q0 := 0) F hK hW idM_0 rfl rfl in_X9_digest_X9 22 (by decide) lk_X9_digest_222 rfl dX9_digest_90 ?_
    refine lv_icmp_ge (tgt := 147) F.1 F.2.1 dX9_digest_93 (by decide) (fun c_16 => ?_) (fun c_16 => ?_)
    · have h := (if_pos c_16).symm.trans h
      refine lv_lload_n F.1 F.2.1 dX9_digest_147 rfl (lv_at hl 1 rfl) ?_
      exact rw_retl F hr hlk hK hW hS h dX9_digest_148
    · have h := (if_neg c_16).symm.trans h
      refine lv_ldc2 (v := 31) F.1 F.2.1 F.2.2.2.1 (F.2.2.2.2 _ lk_X9_digest_278) dX9_digest_96 ?_
      refine lv_ldc2 (v := 31) F.1 F.2.1 F.2.2.2.1 (F.2.2.2.2 _ lk_X9_digest_278) dX9_digest_99 ?_
      refine lv_ldc2 (v := 31) F.1 F.2.1 F.2.2.2.1 (F.2.2.2.2 _ lk_X9_digest_278) dX9_digest_102 ?_
      refine lv_lload_n F.1 F.2.1 dX9_digest_105 rfl (lv_at hl 1 rfl) ?_
      refine lv_lmul F.1 F.2.1 dX9_digest_106 ?_
      refine lv_aload_n F.1 F.2.1 dX9_digest_107 rfl (lv_at hl 0 rfl) ?_
      refine rw_get (q0 := 0) F hK hW idM_0 rfl rfl in_X9_digest_X9 23 (by decide) lk_X9_digest_56 rfl dX9_digest_108 ?_
      refine lv_iload_n F.1 F.2.1 dX9_digest_111 rfl (lv_at hl 2 rfl) ?_
      obtain ⟨b_17, h⟩ := gd_some h
      refine rw_zald (q0 := 16) F hK hW idM_16 (fun _ => rfl) (ix_in b_17) dX9_digest_112 ?_
      refine lv_topi (fun v_18 ev_18 => ?_)
      have h := lt_n ev_18 h
      refine lv_if_eq (tgt := 120) F.1 F.2.1 dX9_digest_113 (by decide) (fun c_19 => ?_) (fun c_19 => ?_)
      · have h := (if_pos c_19).symm.trans h
        refine lv_lconst (v := 0) F.1 F.2.1 dX9_digest_120 (by decide) ?_
        exact w_X9_digest_121 F hr hlk hK out kb Kb _ _ _ _ _ _ _ _ _  hW hS (lv_sub hl [0, 2] rfl) h
      · have h := (if_neg c_19).symm.trans h
        refine lv_lconst (v := 1) F.1 F.2.1 dX9_digest_116 (by decide) ?_
        refine lv_goto (tgt := 121) F.1 F.2.1 dX9_digest_117 (by decide) ?_
        exact w_X9_digest_121 F hr hlk hK out kb Kb _ _ _ _ _ _ _ _ _  hW hS (lv_sub hl [0, 2] rfl) h
set_option maxHeartbeats 4000000 in
set_option maxRecDepth 100000 in
theorem c_X9_digest (l : Launch) (G : GT) (A : Nat → Prop) (S : St) (out : Int64 × St) (h : f_X9_digest S = some out) : Met l yX9_digest wsX9_digest rm_X9_digest (va_Pc [.ref (G.2.2 0 0)] (WD shM idsM G A S)) (QL shM idsM G A out) 0 0 A := by
  refine Met.ofW (cc := cX9_digest) (maxL := 5) (ret := (some .long)) (by decide) rfl ?_
  intro p e s m args below meth c s₁ B hml hv
  obtain ⟨rfl, hW, hK⟩ := hv
  have F : CallFix p m c cX9_digest 5 s _ wsX9_digest RX9 := ⟨B.exec, B.bytes, hml, findClass_of_methodNamed B.named, atoms_spec (ws := wsX9_digest) B.pre⟩
  have hr := B.returns
  have hlk := B.notSynchronized
  have hS : va_S A s.heap s.heap [] := va_S.rf
  have hl := lv_entry ([.ref (G.2.2 0 0)]) (n := 5) (Nat.le_of_ble_eq_true rfl)
  rw [lg_entry_eq]
  generalize (lg_sl ([.ref (G.2.2 0 0)]) ++ List.replicate (5 - (lg_sl ([.ref (G.2.2 0 0)])).length) Slot.unset).toArray = ls at hl ⊢
  have hl : lv_has ls 5 [(0, .ref (G.2.2 0 0))] := hl
  unfold f_X9_digest at h
  refine lv_ldc2 (v := 13) F.1 F.2.1 F.2.2.2.1 (F.2.2.2.2 _ lk_X9_digest_276) dX9_digest_0 ?_
  refine lv_lstore_n (lv' := [(1, .long 13), (0, .ref (G.2.2 0 0))]) F.1 F.2.1 dX9_digest_3 rfl hl (by decide) rfl (fun ls hl => ?_)
  refine lv_iconst (v := 0) F.1 F.2.1 dX9_digest_4 (by decide) ?_
  refine lv_istore_n (lv' := [(3, .int 0), (1, .long 13), (0, .ref (G.2.2 0 0))]) F.1 F.2.1 dX9_digest_5 rfl hl (by decide) rfl (fun ls hl => ?_)
  refine w_X9_digest_6 F hr hlk hK out _ ?_ 5000 _ _ _ _ _ _  hW hS (lv_sub hl [2, 1, 0] rfl) h
  · intro S x1 H locs ls hW hS hl h
    refine lv_iconst (v := 0) F.1 F.2.1 dX9_digest_51 (by decide) ?_
    refine lv_istore_n (lv' := [(3, .int 0), (0, .ref (G.2.2 0 0)), (1, .long x1)]) F.1 F.2.1 dX9_digest_52 rfl hl (by decide) rfl (fun ls hl => ?_)
    refine w_X9_digest_53 F hr hlk hK out _ ?_ 5000 _ _ _ _ _ _  hW hS (lv_sub hl [1, 2, 0] rfl) h
    · intro S x1 H locs ls hW hS hl h
      refine lv_iconst (v := 0) F.1 F.2.1 dX9_digest_86 (by decide) ?_
      refine lv_istore_n (lv' := [(3, .int 0), (0, .ref (G.2.2 0 0)), (1, .long x1)]) F.1 F.2.1 dX9_digest_87 rfl hl (by decide) rfl (fun ls hl => ?_)
      refine w_X9_digest_88 F hr hlk hK out   5000 _ _ _ _ _ _  hW hS (lv_sub hl [1, 2, 0] rfl) h
