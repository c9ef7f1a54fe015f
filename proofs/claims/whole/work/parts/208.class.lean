/-! CellCover.digest()J -/
abbrev rm_X8_digest : Room := { frames := 2, cells := 0, slots := 0, locals := 43 }
theorem in_X8_digest_X8 : ∀ w ∈ wsX80, w ∈ wsX8_digest := by decide +kernel
theorem in_X8_digest_X7 : ∀ w ∈ wsX70, w ∈ wsX8_digest := by decide +kernel
theorem in_X8_digest_X5 : ∀ w ∈ wsX50, w ∈ wsX8_digest := by decide +kernel
theorem in_X8_digest_X3 : ∀ w ∈ wsX30, w ∈ wsX8_digest := by decide +kernel
theorem in_X8_digest_X0 : ∀ w ∈ wsX00, w ∈ wsX8_digest := by decide +kernel
theorem lk_X8_digest_265 : Cond.constantLong RX8 265 13 ∈ wsX8_digest := by decide +kernel
theorem lk_X8_digest_12 : Cond.fieldLink RX8 12 "CellCover" "vertices" "LCellCover$Vertices;" ∈ wsX8_digest := by decide +kernel
theorem lk_X8_digest_73 : Cond.fieldLink RX8 73 "CellCover$Vertices" "many" "I" ∈ wsX8_digest := by decide +kernel
theorem lk_X8_digest_267 : Cond.constantLong RX8 267 31 ∈ wsX8_digest := by decide +kernel
theorem lk_X8_digest_19 : Cond.fieldLink RX8 19 "CellCover" "net" "LCellCover$Net;" ∈ wsX8_digest := by decide +kernel
theorem lk_X8_digest_103 : Cond.fieldLink RX8 103 "CellCover$Net" "outputs" "I" ∈ wsX8_digest := by decide +kernel
theorem lk_X8_digest_33 : Cond.fieldLink RX8 33 "CellCover" "library" "LCellCover$Library;" ∈ wsX8_digest := by decide +kernel
theorem lk_X8_digest_124 : Cond.fieldLink RX8 124 "CellCover$Library" "many" "I" ∈ wsX8_digest := by decide +kernel
theorem lk_X8_digest_125 : Cond.fieldLink RX8 125 "CellCover$Library" "cells" "[LCellCover$Cell;" ∈ wsX8_digest := by decide +kernel
theorem lk_X8_digest_146 : Cond.fieldLink RX8 146 "CellCover$Cell" "there" "Z" ∈ wsX8_digest := by decide +kernel
theorem lk_X8_digest_238 : Cond.fieldLink RX8 238 "CellCover$Cell" "area" "I" ∈ wsX8_digest := by decide +kernel
theorem lk_X8_digest_241 : Cond.fieldLink RX8 241 "CellCover$Cell" "delay" "I" ∈ wsX8_digest := by decide +kernel
set_option maxHeartbeats 4000000 in
set_option maxRecDepth 100000 in
theorem w_X8_digest_20 {p : Program} {l : Launch} {e : Env} {s : State} {m : MethodId} {args : Array Value} {below : List Frame} {meth : Method} {c : Code} {G : GT} {A : Nat → Prop} (F : CallFix p m c cX8_digest 5 s args wsX8_digest RX8) (hr : meth.sig.returnType = (some .long)) (hlk : meth.locks = false) (hK : va_K G.1 vwCl (tyl G) s) (out : Int64 × St) (k47 : St → Int64 → Int32 → Option (Int64 × St)) (K47 : ∀ (S : St) (x1 : Int64) (x3 : Int32) (H : Heap) (locs : List Loc) (ls : Array Slot), Wd shC idsC G A S H → va_S A s.heap H locs → lv_has ls 5 [(0, .ref (G.2.2 0 0)), (1, .long x1), (3, .int x3)] → k47 S x1 x3 = some out → W p l e rm_X8_digest s m args below meth c H locs 0 0 (MQ below (QL shC idsC G A out) args s 0 0 A) (F0 m 47 ls [])) : ∀ n : Nat, ∀ (S : St) (x1 : Int64) (x3 : Int32) (x4 : Int32) (H : Heap) (locs : List Loc) (ls : Array Slot), Wd shC idsC G A S H → va_S A s.heap H locs → lv_has ls 5 [(0, .ref (G.2.2 0 0)), (1, .long x1), (3, .int x3), (4, .int x4)] → l_X8_digest_20 k47 n S x1 x3 x4 = some out → W p l e rm_X8_digest s m args below meth c H locs 0 0 (MQ below (QL shC idsC G A out) args s 0 0 A) (F0 m 20 ls []) := by
  intro n
  induction n with
  | zero =>
    intro S x1 x3 x4 H locs ls hW hS hl h
    cases h
  | succ n Kb =>
    generalize hkb : l_X8_digest_20 k47 n = kb at Kb
    intro S x1 x3 x4 H locs ls hW hS hl h
    rw [show l_X8_digest_20 k47 (n + 1) = b_X8_digest_20 (l_X8_digest_20 k47 n) k47 from rfl, hkb] at h
    unfold b_X8_digest_20 at h
    refine lv_iload F.1 F.2.1 dX8_digest_20 (lv_at hl 3 rfl) ?_
    refine lv_iconst (v := 5) F.1 F.2.1 dX8_digest_22 (by decide) ?_
    refine lv_icmp_gt (tgt := 47) F.1 F.2.1 dX8_digest_23 (by decide) (fun c_2 => ?_) (fun c_2 => ?_)
    · have h := (if_pos c_2).symm.trans h
      exact K47 _ _ _ _ _ _  hW hS (lv_sub hl [0, 1, 2] rfl) h
    · have h := (if_neg c_2).symm.trans h
      refine lv_ldc2 (v := 31) F.1 F.2.1 F.2.2.2.1 (F.2.2.2.2 _ lk_X8_digest_267) dX8_digest_26 ?_
      refine lv_lload_n F.1 F.2.1 dX8_digest_29 rfl (lv_at hl 1 rfl) ?_
      refine lv_lmul F.1 F.2.1 dX8_digest_30 ?_
      refine lv_aload_n F.1 F.2.1 dX8_digest_31 rfl (lv_at hl 0 rfl) ?_
      refine lv_iload_n F.1 F.2.1 dX8_digest_32 rfl (lv_at hl 2 rfl) ?_
      refine lv_iload F.1 F.2.1 dX8_digest_33 (lv_at hl 3 rfl) ?_
      obtain ⟨r_4, S_5, hq_3, h⟩ := bi_some h
      refine rw_vi F hK hW hS [.int x3, .int x4] (rest := [.long (31 * x1)]) (c_X8_vertex l G A x3 x4 S (r_4, S_5) hq_3) (cwV 2 F.2.2.2.2 gX8_digest_X8_vertex rfl rfl rfl (by decide +kernel) ⟨Nat.le_of_ble_eq_true rfl, Nat.le_of_ble_eq_true rfl⟩) (rw_recv (q0 := 0) hK hW idC_0 rfl rfl) rfl hl.1 rfl (Nat.le_of_ble_eq_true rfl) dX8_digest_35 (fun H locs hW hS => ?_)
      refine lv_i2l (v := r_4.toInt64) F.1 F.2.1 dX8_digest_38 rfl ?_
      refine lv_ladd F.1 F.2.1 dX8_digest_39 ?_
      refine lv_topl (fun v_6 ev_6 => ?_)
      have h := lt_n ev_6 h
      refine lv_lstore_n (lv' := [(1, .long v_6), (0, .ref (G.2.2 0 0)), (3, .int x3), (4, .int x4)]) F.1 F.2.1 dX8_digest_40 rfl hl (by decide) rfl (fun ls hl => ?_)
      obtain ⟨v_7, ev_7⟩ : ∃ y : Int32, y = x4 + 1 := ⟨_, rfl⟩
      have h := lt_n ev_7 h
      refine lv_iinc (v := v_7) (lv' := [(4, .int v_7), (1, .long v_6), (0, .ref (G.2.2 0 0)), (3, .int x3)]) F.1 F.2.1 dX8_digest_41 hl (k := 3) rfl (by rw [ev_7]; rfl) (by decide) rfl (fun ls hl => ?_)
      refine lv_goto (tgt := 20) F.1 F.2.1 dX8_digest_44 (by decide) ?_
      exact Kb _ _ _ _ _ _ _  hW hS (lv_sub hl [2, 1, 3, 0] rfl) h
set_option maxHeartbeats 4000000 in
set_option maxRecDepth 100000 in
theorem w_X8_digest_6 {p : Program} {l : Launch} {e : Env} {s : State} {m : MethodId} {args : Array Value} {below : List Frame} {meth : Method} {c : Code} {G : GT} {A : Nat → Prop} (F : CallFix p m c cX8_digest 5 s args wsX8_digest RX8) (hr : meth.sig.returnType = (some .long)) (hlk : meth.locks = false) (hK : va_K G.1 vwCl (tyl G) s) (out : Int64 × St) (k53 : St → Int64 → Option (Int64 × St)) (K53 : ∀ (S : St) (x1 : Int64) (H : Heap) (locs : List Loc) (ls : Array Slot), Wd shC idsC G A S H → va_S A s.heap H locs → lv_has ls 5 [(0, .ref (G.2.2 0 0)), (1, .long x1)] → k53 S x1 = some out → W p l e rm_X8_digest s m args below meth c H locs 0 0 (MQ below (QL shC idsC G A out) args s 0 0 A) (F0 m 53 ls [])) : ∀ n : Nat, ∀ (S : St) (x1 : Int64) (x3 : Int32) (H : Heap) (locs : List Loc) (ls : Array Slot), Wd shC idsC G A S H → va_S A s.heap H locs → lv_has ls 5 [(0, .ref (G.2.2 0 0)), (1, .long x1), (3, .int x3)] → l_X8_digest_6 k53 n S x1 x3 = some out → W p l e rm_X8_digest s m args below meth c H locs 0 0 (MQ below (QL shC idsC G A out) args s 0 0 A) (F0 m 6 ls []) := by
  intro n
  induction n with
  | zero =>
    intro S x1 x3 H locs ls hW hS hl h
    cases h
  | succ n Kb =>
    generalize hkb : l_X8_digest_6 k53 n = kb at Kb
    intro S x1 x3 H locs ls hW hS hl h
    rw [show l_X8_digest_6 k53 (n + 1) = b_X8_digest_6 (l_X8_digest_6 k53 n) k53 from rfl, hkb] at h
    unfold b_X8_digest_6 at h
    refine lv_iload_n F.1 F.2.1 dX8_digest_6 rfl (lv_at hl 2 rfl) ?_
    refine lv_aload_n F.1 F.2.1 dX8_digest_7 rfl (lv_at hl 0 rfl) ?_
    refine rw_get (q0 := 0) F hK hW idC_0 rfl rfl in_X8_digest_X8 0 (by decide) lk_X8_digest_12 rfl dX8_digest_8 ?_
    refine rw_get (q0 := 1) F hK hW idC_1 rfl rfl in_X8_digest_X7 6 (by decide) lk_X8_digest_73 rfl dX8_digest_11 ?_
    refine lv_icmp_ge (tgt := 53) F.1 F.2.1 dX8_digest_14 (by decide) (fun c_1 => ?_) (fun c_1 => ?_)
    · have h := (if_pos c_1).symm.trans h
      exact K53 _ _ _ _ _  hW hS (lv_sub hl [0, 1] rfl) h
    · have h := (if_neg c_1).symm.trans h
      refine lv_iconst (v := 0) F.1 F.2.1 dX8_digest_17 (by decide) ?_
      refine lv_istore (lv' := [(4, .int 0), (0, .ref (G.2.2 0 0)), (1, .long x1), (3, .int x3)]) F.1 F.2.1 dX8_digest_18 hl (by decide) rfl (fun ls hl => ?_)
      refine w_X8_digest_20 F hr hlk hK out _ ?_ 5000 _ _ _ _ _ _ _  hW hS (lv_sub hl [1, 2, 3, 0] rfl) h
      · intro S x1 x3 H locs ls hW hS hl h
        obtain ⟨v_8, ev_8⟩ : ∃ y : Int32, y = x3 + 1 := ⟨_, rfl⟩
        have h := lt_n ev_8 h
        refine lv_iinc (v := v_8) (lv' := [(3, .int v_8), (0, .ref (G.2.2 0 0)), (1, .long x1)]) F.1 F.2.1 dX8_digest_47 hl (k := 2) rfl (by rw [ev_8]; rfl) (by decide) rfl (fun ls hl => ?_)
        refine lv_goto (tgt := 6) F.1 F.2.1 dX8_digest_50 (by decide) ?_
        exact Kb _ _ _ _ _ _  hW hS (lv_sub hl [1, 2, 0] rfl) h
set_option maxHeartbeats 4000000 in
set_option maxRecDepth 100000 in
theorem w_X8_digest_55 {p : Program} {l : Launch} {e : Env} {s : State} {m : MethodId} {args : Array Value} {below : List Frame} {meth : Method} {c : Code} {G : GT} {A : Nat → Prop} (F : CallFix p m c cX8_digest 5 s args wsX8_digest RX8) (hr : meth.sig.returnType = (some .long)) (hlk : meth.locks = false) (hK : va_K G.1 vwCl (tyl G) s) (out : Int64 × St) (k88 : St → Int64 → Option (Int64 × St)) (K88 : ∀ (S : St) (x1 : Int64) (H : Heap) (locs : List Loc) (ls : Array Slot), Wd shC idsC G A S H → va_S A s.heap H locs → lv_has ls 5 [(0, .ref (G.2.2 0 0)), (1, .long x1)] → k88 S x1 = some out → W p l e rm_X8_digest s m args below meth c H locs 0 0 (MQ below (QL shC idsC G A out) args s 0 0 A) (F0 m 88 ls [])) : ∀ n : Nat, ∀ (S : St) (x1 : Int64) (x3 : Int32) (H : Heap) (locs : List Loc) (ls : Array Slot), Wd shC idsC G A S H → va_S A s.heap H locs → lv_has ls 5 [(0, .ref (G.2.2 0 0)), (1, .long x1), (3, .int x3)] → l_X8_digest_55 k88 n S x1 x3 = some out → W p l e rm_X8_digest s m args below meth c H locs 0 0 (MQ below (QL shC idsC G A out) args s 0 0 A) (F0 m 55 ls []) := by
  intro n
  induction n with
  | zero =>
    intro S x1 x3 H locs ls hW hS hl h
    cases h
  | succ n Kb =>
    generalize hkb : l_X8_digest_55 k88 n = kb at Kb
    intro S x1 x3 H locs ls hW hS hl h
    rw [show l_X8_digest_55 k88 (n + 1) = b_X8_digest_55 (l_X8_digest_55 k88 n) k88 from rfl, hkb] at h
    unfold b_X8_digest_55 at h
    refine lv_iload_n F.1 F.2.1 dX8_digest_55 rfl (lv_at hl 2 rfl) ?_
    refine lv_aload_n F.1 F.2.1 dX8_digest_56 rfl (lv_at hl 0 rfl) ?_
    refine rw_get (q0 := 0) F hK hW idC_0 rfl rfl in_X8_digest_X8 1 (by decide) lk_X8_digest_19 rfl dX8_digest_57 ?_
    refine rw_get (q0 := 2) F hK hW idC_2 rfl rfl in_X8_digest_X5 10 (by decide) lk_X8_digest_103 rfl dX8_digest_60 ?_
    refine lv_icmp_ge (tgt := 88) F.1 F.2.1 dX8_digest_63 (by decide) (fun c_9 => ?_) (fun c_9 => ?_)
    · have h := (if_pos c_9).symm.trans h
      exact K88 _ _ _ _ _  hW hS (lv_sub hl [0, 1] rfl) h
    · have h := (if_neg c_9).symm.trans h
      refine lv_ldc2 (v := 31) F.1 F.2.1 F.2.2.2.1 (F.2.2.2.2 _ lk_X8_digest_267) dX8_digest_66 ?_
      refine lv_lload_n F.1 F.2.1 dX8_digest_69 rfl (lv_at hl 1 rfl) ?_
      refine lv_lmul F.1 F.2.1 dX8_digest_70 ?_
      refine lv_aload_n F.1 F.2.1 dX8_digest_71 rfl (lv_at hl 0 rfl) ?_
      refine rw_get (q0 := 0) F hK hW idC_0 rfl rfl in_X8_digest_X8 1 (by decide) lk_X8_digest_19 rfl dX8_digest_72 ?_
      refine lv_iload_n F.1 F.2.1 dX8_digest_75 rfl (lv_at hl 2 rfl) ?_
      obtain ⟨r_11, S_12, hq_10, h⟩ := bi_some h
      refine rw_vi F hK hW hS [.int x3] (rest := [.long (31 * x1)]) (c_X5_outputVertex l G A x3 S (r_11, S_12) hq_10) (cwV 1 F.2.2.2.2 gX8_digest_X5_outputVertex rfl rfl rfl (by decide +kernel) ⟨Nat.le_of_ble_eq_true rfl, Nat.le_of_ble_eq_true rfl⟩) (rw_recv (q0 := 2) hK hW idC_2 rfl rfl) rfl hl.1 rfl (Nat.le_of_ble_eq_true rfl) dX8_digest_76 (fun H locs hW hS => ?_)
      refine lv_i2l (v := r_11.toInt64) F.1 F.2.1 dX8_digest_79 rfl ?_
      refine lv_ladd F.1 F.2.1 dX8_digest_80 ?_
      refine lv_topl (fun v_13 ev_13 => ?_)
      have h := lt_n ev_13 h
      refine lv_lstore_n (lv' := [(1, .long v_13), (0, .ref (G.2.2 0 0)), (3, .int x3)]) F.1 F.2.1 dX8_digest_81 rfl hl (by decide) rfl (fun ls hl => ?_)
      obtain ⟨v_14, ev_14⟩ : ∃ y : Int32, y = x3 + 1 := ⟨_, rfl⟩
      have h := lt_n ev_14 h
      refine lv_iinc (v := v_14) (lv' := [(3, .int v_14), (1, .long v_13), (0, .ref (G.2.2 0 0))]) F.1 F.2.1 dX8_digest_82 hl (k := 2) rfl (by rw [ev_14]; rfl) (by decide) rfl (fun ls hl => ?_)
      refine lv_goto (tgt := 55) F.1 F.2.1 dX8_digest_85 (by decide) ?_
      exact Kb _ _ _ _ _ _  hW hS (lv_sub hl [2, 1, 0] rfl) h
set_option maxHeartbeats 4000000 in
set_option maxRecDepth 100000 in
theorem w_X8_digest_130 {p : Program} {l : Launch} {e : Env} {s : State} {m : MethodId} {args : Array Value} {below : List Frame} {meth : Method} {c : Code} {G : GT} {A : Nat → Prop} (F : CallFix p m c cX8_digest 5 s args wsX8_digest RX8) (hr : meth.sig.returnType = (some .long)) (hlk : meth.locks = false) (hK : va_K G.1 vwCl (tyl G) s) (out : Int64 × St) (kb : St → Int64 → Int32 → Option (Int64 × St)) (Kb : ∀ (S : St) (x1 : Int64) (x3 : Int32) (H : Heap) (locs : List Loc) (ls : Array Slot), Wd shC idsC G A S H → va_S A s.heap H locs → lv_has ls 5 [(0, .ref (G.2.2 0 0)), (1, .long x1), (3, .int x3)] → kb S x1 x3 = some out → W p l e rm_X8_digest s m args below meth c H locs 0 0 (MQ below (QL shC idsC G A out) args s 0 0 A) (F0 m 90 ls [])) : ∀ (S : St) (x3 : Int32) (x4 : Nat) (y0 : Int64) (y1 : Int32) (H : Heap) (locs : List Loc) (ls : Array Slot), x4 < 20 → Wd shC idsC G A S H → va_S A s.heap H locs → lv_has ls 5 [(0, .ref (G.2.2 0 0)), (3, .int x3), (4, .ref (G.2.2 8 x4))] → j_X8_digest_130 kb S x3 x4 y0 y1 = some out → W p l e rm_X8_digest s m args below meth c H locs 0 0 (MQ below (QL shC idsC G A out) args s 0 0 A) (F0 m 130 ls [.int y1, .long y0]) := by
  intro S x3 x4 y0 y1 H locs ls hx4 hW hS hl h
  unfold j_X8_digest_130 at h
  refine lv_i2l (v := y1.toInt64) F.1 F.2.1 dX8_digest_130 rfl ?_
  refine lv_ladd F.1 F.2.1 dX8_digest_131 ?_
  refine lv_topl (fun v_18 ev_18 => ?_)
  have h := lt_n ev_18 h
  refine lv_lstore_n (lv' := [(1, .long v_18), (0, .ref (G.2.2 0 0)), (3, .int x3), (4, .ref (G.2.2 8 x4))]) F.1 F.2.1 dX8_digest_132 rfl hl (by decide) rfl (fun ls hl => ?_)
  refine lv_ldc2 (v := 31) F.1 F.2.1 F.2.2.2.1 (F.2.2.2.2 _ lk_X8_digest_267) dX8_digest_133 ?_
  refine lv_lload_n F.1 F.2.1 dX8_digest_136 rfl (lv_at hl 0 rfl) ?_
  refine lv_lmul F.1 F.2.1 dX8_digest_137 ?_
  refine lv_aload F.1 F.2.1 dX8_digest_138 (lv_at hl 3 rfl) ?_
  refine rw_get (q0 := 9 + x4) F hK hW (idC_8 _ hx4) rfl rfl in_X8_digest_X0 4 (by decide) lk_X8_digest_238 rfl dX8_digest_140 ?_
  refine lv_i2l (v := (S 8 x4 4).toInt64) F.1 F.2.1 dX8_digest_143 rfl ?_
  refine lv_ladd F.1 F.2.1 dX8_digest_144 ?_
  refine lv_topl (fun v_19 ev_19 => ?_)
  have h := lt_n ev_19 h
  refine lv_lstore_n (lv' := [(1, .long v_19), (0, .ref (G.2.2 0 0)), (3, .int x3), (4, .ref (G.2.2 8 x4))]) F.1 F.2.1 dX8_digest_145 rfl hl (by decide) rfl (fun ls hl => ?_)
  refine lv_ldc2 (v := 31) F.1 F.2.1 F.2.2.2.1 (F.2.2.2.2 _ lk_X8_digest_267) dX8_digest_146 ?_
  refine lv_lload_n F.1 F.2.1 dX8_digest_149 rfl (lv_at hl 0 rfl) ?_
  refine lv_lmul F.1 F.2.1 dX8_digest_150 ?_
  refine lv_aload F.1 F.2.1 dX8_digest_151 (lv_at hl 3 rfl) ?_
  refine rw_get (q0 := 9 + x4) F hK hW (idC_8 _ hx4) rfl rfl in_X8_digest_X0 5 (by decide) lk_X8_digest_241 rfl dX8_digest_153 ?_
  refine lv_i2l (v := (S 8 x4 5).toInt64) F.1 F.2.1 dX8_digest_156 rfl ?_
  refine lv_ladd F.1 F.2.1 dX8_digest_157 ?_
  refine lv_topl (fun v_20 ev_20 => ?_)
  have h := lt_n ev_20 h
  refine lv_lstore_n (lv' := [(1, .long v_20), (0, .ref (G.2.2 0 0)), (3, .int x3), (4, .ref (G.2.2 8 x4))]) F.1 F.2.1 dX8_digest_158 rfl hl (by decide) rfl (fun ls hl => ?_)
  obtain ⟨v_21, ev_21⟩ : ∃ y : Int32, y = x3 + 1 := ⟨_, rfl⟩
  have h := lt_n ev_21 h
  refine lv_iinc (v := v_21) (lv' := [(3, .int v_21), (1, .long v_20), (0, .ref (G.2.2 0 0)), (4, .ref (G.2.2 8 x4))]) F.1 F.2.1 dX8_digest_159 hl (k := 2) rfl (by rw [ev_21]; rfl) (by decide) rfl (fun ls hl => ?_)
  refine lv_goto (tgt := 90) F.1 F.2.1 dX8_digest_162 (by decide) ?_
  exact Kb _ _ _ _ _ _  hW hS (lv_sub hl [2, 1, 0] rfl) h
set_option maxHeartbeats 4000000 in
set_option maxRecDepth 100000 in
theorem w_X8_digest_90 {p : Program} {l : Launch} {e : Env} {s : State} {m : MethodId} {args : Array Value} {below : List Frame} {meth : Method} {c : Code} {G : GT} {A : Nat → Prop} (F : CallFix p m c cX8_digest 5 s args wsX8_digest RX8) (hr : meth.sig.returnType = (some .long)) (hlk : meth.locks = false) (hK : va_K G.1 vwCl (tyl G) s) (out : Int64 × St) : ∀ n : Nat, ∀ (S : St) (x1 : Int64) (x3 : Int32) (H : Heap) (locs : List Loc) (ls : Array Slot), Wd shC idsC G A S H → va_S A s.heap H locs → lv_has ls 5 [(0, .ref (G.2.2 0 0)), (1, .long x1), (3, .int x3)] → l_X8_digest_90 n S x1 x3 = some out → W p l e rm_X8_digest s m args below meth c H locs 0 0 (MQ below (QL shC idsC G A out) args s 0 0 A) (F0 m 90 ls []) := by
  intro n
  induction n with
  | zero =>
    intro S x1 x3 H locs ls hW hS hl h
    cases h
  | succ n Kb =>
    generalize hkb : l_X8_digest_90 n = kb at Kb
    intro S x1 x3 H locs ls hW hS hl h
    rw [show l_X8_digest_90 (n + 1) = b_X8_digest_90 (l_X8_digest_90 n) from rfl, hkb] at h
    unfold b_X8_digest_90 at h
    refine lv_iload_n F.1 F.2.1 dX8_digest_90 rfl (lv_at hl 2 rfl) ?_
    refine lv_aload_n F.1 F.2.1 dX8_digest_91 rfl (lv_at hl 0 rfl) ?_
    refine rw_get (q0 := 0) F hK hW idC_0 rfl rfl in_X8_digest_X8 3 (by decide) lk_X8_digest_33 rfl dX8_digest_92 ?_
    refine rw_get (q0 := 4) F hK hW idC_4 rfl rfl in_X8_digest_X3 1 (by decide) lk_X8_digest_124 rfl dX8_digest_95 ?_
    refine lv_icmp_ge (tgt := 165) F.1 F.2.1 dX8_digest_98 (by decide) (fun c_15 => ?_) (fun c_15 => ?_)
    · have h := (if_pos c_15).symm.trans h
      refine lv_lload_n F.1 F.2.1 dX8_digest_165 rfl (lv_at hl 1 rfl) ?_
      exact rw_retl F hr hlk hK hW hS h dX8_digest_166
    · have h := (if_neg c_15).symm.trans h
      refine lv_aload_n F.1 F.2.1 dX8_digest_101 rfl (lv_at hl 0 rfl) ?_
      refine rw_get (q0 := 0) F hK hW idC_0 rfl rfl in_X8_digest_X8 3 (by decide) lk_X8_digest_33 rfl dX8_digest_102 ?_
      refine rw_get (q0 := 4) F hK hW idC_4 rfl rfl in_X8_digest_X3 0 (by decide) lk_X8_digest_125 rfl dX8_digest_105 ?_
      refine lv_iload_n F.1 F.2.1 dX8_digest_108 rfl (lv_at hl 2 rfl) ?_
      obtain ⟨b_16, h⟩ := gd_some h
      refine rw_aald (q0 := 44) F hK hW idC_24 (fun _ => rfl) (ix_in b_16) dX8_digest_109 ?_
      refine lv_astore (lv' := [(4, .ref (G.2.2 8 x3.toNatClampNeg)), (0, .ref (G.2.2 0 0)), (1, .long x1), (3, .int x3)]) F.1 F.2.1 dX8_digest_110 hl (by decide) rfl (fun ls hl => ?_)
      refine lv_ldc2 (v := 31) F.1 F.2.1 F.2.2.2.1 (F.2.2.2.2 _ lk_X8_digest_267) dX8_digest_112 ?_
      refine lv_lload_n F.1 F.2.1 dX8_digest_115 rfl (lv_at hl 2 rfl) ?_
      refine lv_lmul F.1 F.2.1 dX8_digest_116 ?_
      refine lv_aload F.1 F.2.1 dX8_digest_117 (lv_at hl 0 rfl) ?_
      refine rw_get (q0 := 9 + x3.toNatClampNeg) F hK hW (idC_8 _ (ix_lt b_16)) rfl rfl in_X8_digest_X0 6 (by decide) lk_X8_digest_146 rfl dX8_digest_119 ?_
      refine lv_if_eq (tgt := 129) F.1 F.2.1 dX8_digest_122 (by decide) (fun c_17 => ?_) (fun c_17 => ?_)
      · have h := (if_pos c_17).symm.trans h
        refine lv_iconst (v := 0) F.1 F.2.1 dX8_digest_129 (by decide) ?_
        exact w_X8_digest_130 F hr hlk hK out kb Kb _ _ _ _ _ _ _ _ (ix_lt b_16) hW hS (lv_sub hl [1, 3, 0] rfl) h
      · have h := (if_neg c_17).symm.trans h
        refine lv_iconst (v := 1) F.1 F.2.1 dX8_digest_125 (by decide) ?_
        refine lv_goto (tgt := 130) F.1 F.2.1 dX8_digest_126 (by decide) ?_
        exact w_X8_digest_130 F hr hlk hK out kb Kb _ _ _ _ _ _ _ _ (ix_lt b_16) hW hS (lv_sub hl [1, 3, 0] rfl) h
set_option maxHeartbeats 4000000 in
set_option maxRecDepth 100000 in
theorem c_X8_digest (l : Launch) (G : GT) (A : Nat → Prop) (S : St) (out : Int64 × St) (h : f_X8_digest S = some out) : Met l yX8_digest wsX8_digest rm_X8_digest (va_Pc [.ref (G.2.2 0 0)] (WD shC idsC G A S)) (QL shC idsC G A out) 0 0 A := by
  refine Met.ofW (cc := cX8_digest) (maxL := 5) (ret := (some .long)) (by decide) rfl ?_
  intro p e s m args below meth c s₁ B hml hv
  obtain ⟨rfl, hW, hK⟩ := hv
  have F : CallFix p m c cX8_digest 5 s _ wsX8_digest RX8 := ⟨B.exec, B.bytes, hml, findClass_of_methodNamed B.named, atoms_spec (ws := wsX8_digest) B.pre⟩
  have hr := B.returns
  have hlk := B.notSynchronized
  have hS : va_S A s.heap s.heap [] := va_S.rf
  have hl := lv_entry ([.ref (G.2.2 0 0)]) (n := 5) (Nat.le_of_ble_eq_true rfl)
  rw [lg_entry_eq]
  generalize (lg_sl ([.ref (G.2.2 0 0)]) ++ List.replicate (5 - (lg_sl ([.ref (G.2.2 0 0)])).length) Slot.unset).toArray = ls at hl ⊢
  have hl : lv_has ls 5 [(0, .ref (G.2.2 0 0))] := hl
  unfold f_X8_digest at h
  refine lv_ldc2 (v := 13) F.1 F.2.1 F.2.2.2.1 (F.2.2.2.2 _ lk_X8_digest_265) dX8_digest_0 ?_
  refine lv_lstore_n (lv' := [(1, .long 13), (0, .ref (G.2.2 0 0))]) F.1 F.2.1 dX8_digest_3 rfl hl (by decide) rfl (fun ls hl => ?_)
  refine lv_iconst (v := 0) F.1 F.2.1 dX8_digest_4 (by decide) ?_
  refine lv_istore_n (lv' := [(3, .int 0), (1, .long 13), (0, .ref (G.2.2 0 0))]) F.1 F.2.1 dX8_digest_5 rfl hl (by decide) rfl (fun ls hl => ?_)
  refine w_X8_digest_6 F hr hlk hK out _ ?_ 5000 _ _ _ _ _ _  hW hS (lv_sub hl [2, 1, 0] rfl) h
  · intro S x1 H locs ls hW hS hl h
    refine lv_iconst (v := 0) F.1 F.2.1 dX8_digest_53 (by decide) ?_
    refine lv_istore_n (lv' := [(3, .int 0), (0, .ref (G.2.2 0 0)), (1, .long x1)]) F.1 F.2.1 dX8_digest_54 rfl hl (by decide) rfl (fun ls hl => ?_)
    refine w_X8_digest_55 F hr hlk hK out _ ?_ 5000 _ _ _ _ _ _  hW hS (lv_sub hl [1, 2, 0] rfl) h
    · intro S x1 H locs ls hW hS hl h
      refine lv_iconst (v := 0) F.1 F.2.1 dX8_digest_88 (by decide) ?_
      refine lv_istore_n (lv' := [(3, .int 0), (0, .ref (G.2.2 0 0)), (1, .long x1)]) F.1 F.2.1 dX8_digest_89 rfl hl (by decide) rfl (fun ls hl => ?_)
      refine w_X8_digest_90 F hr hlk hK out   5000 _ _ _ _ _ _  hW hS (lv_sub hl [1, 2, 0] rfl) h
