/-! CellCoverModel.instances(I)I -/
abbrev rm_X9_instances : Room := { frames := 0, cells := 0, slots := 0, locals := 0 }
theorem in_X9_instances_X9 : ∀ w ∈ wsX90, w ∈ wsX9_instances := by decide +kernel
theorem lk_X9_instances_250 : Cond.fieldLink RX9 250 "CellCoverModel" "instances" "I" ∈ wsX9_instances := by decide +kernel
theorem lk_X9_instances_163 : Cond.fieldLink RX9 163 "CellCoverModel" "vertices" "I" ∈ wsX9_instances := by decide +kernel
theorem lk_X9_instances_116 : Cond.fieldLink RX9 116 "CellCoverModel" "stands" "[Z" ∈ wsX9_instances := by decide +kernel
theorem lk_X9_instances_50 : Cond.fieldLink RX9 50 "CellCoverModel" "root" "[Z" ∈ wsX9_instances := by decide +kernel
theorem lk_X9_instances_119 : Cond.fieldLink RX9 119 "CellCoverModel" "pile" "[I" ∈ wsX9_instances := by decide +kernel
theorem lk_X9_instances_113 : Cond.fieldLink RX9 113 "CellCoverModel" "instanceOf" "[I" ∈ wsX9_instances := by decide +kernel
theorem lk_X9_instances_59 : Cond.fieldLink RX9 59 "CellCoverModel" "area" "[I" ∈ wsX9_instances := by decide +kernel
theorem lk_X9_instances_107 : Cond.fieldLink RX9 107 "CellCoverModel" "bestCell" "[I" ∈ wsX9_instances := by decide +kernel
theorem lk_X9_instances_110 : Cond.fieldLink RX9 110 "CellCoverModel" "bestPins" "[I" ∈ wsX9_instances := by decide +kernel
theorem lk_X9_instances_31 : Cond.fieldLink RX9 31 "CellCoverModel" "vWhat" "[I" ∈ wsX9_instances := by decide +kernel
set_option maxHeartbeats 4000000 in
set_option maxRecDepth 100000 in
theorem w_X9_instances_16 {p : Program} {l : Launch} {e : Env} {s : State} {m : MethodId} {args : Array Value} {below : List Frame} {meth : Method} {c : Code} {G : GT} {A : Nat → Prop} (F : CallFix p m c cX9_instances 9 s args wsX9_instances RX9) (hr : meth.sig.returnType = (some .int)) (hlk : meth.locks = false) (hK : va_K G.1 vwCl (tyl G) s) (out : Int32 × St) (k39 : St → Int32 → Int32 → Option (Int32 × St)) (K39 : ∀ (S : St) (x2 : Int32) (x3 : Int32) (H : Heap) (locs : List Loc) (ls : Array Slot), Wd shM idsM G A S H → va_S A s.heap H locs → lv_has ls 9 [(0, .ref (G.2.2 0 0)), (2, .int x2), (3, .int x3)] → k39 S x2 x3 = some out → W p l e rm_X9_instances s m args below meth c H locs 0 0 (MQ below (QI shM idsM G A out) args s 0 0 A) (F0 m 39 ls [])) : ∀ n : Nat, ∀ (S : St) (x2 : Int32) (x3 : Int32) (x4 : Int32) (H : Heap) (locs : List Loc) (ls : Array Slot), Wd shM idsM G A S H → va_S A s.heap H locs → lv_has ls 9 [(0, .ref (G.2.2 0 0)), (2, .int x2), (3, .int x3), (4, .int x4)] → l_X9_instances_16 k39 n S x2 x3 x4 = some out → W p l e rm_X9_instances s m args below meth c H locs 0 0 (MQ below (QI shM idsM G A out) args s 0 0 A) (F0 m 16 ls []) := by
  intro n
  induction n with
  | zero =>
    intro S x2 x3 x4 H locs ls hW hS hl h
    cases h
  | succ n Kb =>
    generalize hkb : l_X9_instances_16 k39 n = kb at Kb
    intro S x2 x3 x4 H locs ls hW hS hl h
    rw [show l_X9_instances_16 k39 (n + 1) = b_X9_instances_16 (l_X9_instances_16 k39 n) k39 from rfl, hkb] at h
    unfold b_X9_instances_16 at h
    refine lv_iload F.1 F.2.1 dX9_instances_16 (lv_at hl 3 rfl) ?_
    refine lv_aload_n F.1 F.2.1 dX9_instances_18 rfl (lv_at hl 0 rfl) ?_
    refine rw_get (q0 := 0) F hK hW idM_0 rfl rfl in_X9_instances_X9 11 (by decide) lk_X9_instances_163 rfl dX9_instances_19 ?_
    refine lv_icmp_ge (tgt := 39) F.1 F.2.1 dX9_instances_22 (by decide) (fun c_3 => ?_) (fun c_3 => ?_)
    · have h := (if_pos c_3).symm.trans h
      exact K39 _ _ _ _ _ _  hW hS (lv_sub hl [0, 1, 2] rfl) h
    · have h := (if_neg c_3).symm.trans h
      refine lv_aload_n F.1 F.2.1 dX9_instances_25 rfl (lv_at hl 0 rfl) ?_
      refine rw_get (q0 := 0) F hK hW idM_0 rfl rfl in_X9_instances_X9 48 (by decide) lk_X9_instances_116 rfl dX9_instances_26 ?_
      refine lv_iload F.1 F.2.1 dX9_instances_29 (lv_at hl 3 rfl) ?_
      refine lv_iconst (v := 0) F.1 F.2.1 dX9_instances_31 (by decide) ?_
      obtain ⟨b_4, h⟩ := gd_some h
      refine rw_zast ndM (q0 := 36) F hK hW hS idM_36 (fun _ => rfl) (ix_in b_4) dX9_instances_32 (fun H locs S_5 eS_5 hW hS => ?_)
      have h := lt_n eS_5 h
      obtain ⟨v_6, ev_6⟩ : ∃ y : Int32, y = x4 + 1 := ⟨_, rfl⟩
      have h := lt_n ev_6 h
      refine lv_iinc (v := v_6) (lv' := [(4, .int v_6), (0, .ref (G.2.2 0 0)), (2, .int x2), (3, .int x3)]) F.1 F.2.1 dX9_instances_33 hl (k := 3) rfl (by rw [ev_6]; rfl) (by decide) rfl (fun ls hl => ?_)
      refine lv_goto (tgt := 16) F.1 F.2.1 dX9_instances_36 (by decide) ?_
      exact Kb _ _ _ _ _ _ _  hW hS (lv_sub hl [1, 2, 3, 0] rfl) h
set_option maxHeartbeats 4000000 in
set_option maxRecDepth 100000 in
theorem w_X9_instances_218 {p : Program} {l : Launch} {e : Env} {s : State} {m : MethodId} {args : Array Value} {below : List Frame} {meth : Method} {c : Code} {G : GT} {A : Nat → Prop} (F : CallFix p m c cX9_instances 9 s args wsX9_instances RX9) (hr : meth.sig.returnType = (some .int)) (hlk : meth.locks = false) (hK : va_K G.1 vwCl (tyl G) s) (out : Int32 × St) (kb : St → Int32 → Int32 → Int32 → Int32 → Option (Int32 × St)) (k221 : St → Int32 → Int32 → Int32 → Option (Int32 × St)) (Kb : ∀ (S : St) (x2 : Int32) (x3 : Int32) (x4 : Int32) (x5 : Int32) (H : Heap) (locs : List Loc) (ls : Array Slot), Wd shM idsM G A S H → va_S A s.heap H locs → lv_has ls 9 [(0, .ref (G.2.2 0 0)), (2, .int x2), (3, .int x3), (4, .int x4), (5, .int x5)] → kb S x2 x3 x4 x5 = some out → W p l e rm_X9_instances s m args below meth c H locs 0 0 (MQ below (QI shM idsM G A out) args s 0 0 A) (F0 m 75 ls [])) (K221 : ∀ (S : St) (x2 : Int32) (x3 : Int32) (x4 : Int32) (H : Heap) (locs : List Loc) (ls : Array Slot), Wd shM idsM G A S H → va_S A s.heap H locs → lv_has ls 9 [(0, .ref (G.2.2 0 0)), (2, .int x2), (3, .int x3), (4, .int x4)] → k221 S x2 x3 x4 = some out → W p l e rm_X9_instances s m args below meth c H locs 0 0 (MQ below (QI shM idsM G A out) args s 0 0 A) (F0 m 221 ls [])) : ∀ (S : St) (x2 : Int32) (x3 : Int32) (x4 : Int32) (x5 : Int32) (H : Heap) (locs : List Loc) (ls : Array Slot), Wd shM idsM G A S H → va_S A s.heap H locs → lv_has ls 9 [(0, .ref (G.2.2 0 0)), (2, .int x2), (3, .int x3), (4, .int x4), (5, .int x5)] → j_X9_instances_218 kb k221 S x2 x3 x4 x5 = some out → W p l e rm_X9_instances s m args below meth c H locs 0 0 (MQ below (QI shM idsM G A out) args s 0 0 A) (F0 m 218 ls []) := by
  intro S x2 x3 x4 x5 H locs ls hW hS hl h
  unfold j_X9_instances_218 at h
  refine lv_goto (tgt := 75) F.1 F.2.1 dX9_instances_218 (by decide) ?_
  exact Kb _ _ _ _ _ _ _ _  hW hS hl h
set_option maxHeartbeats 4000000 in
set_option maxRecDepth 100000 in
theorem w_X9_instances_212 {p : Program} {l : Launch} {e : Env} {s : State} {m : MethodId} {args : Array Value} {below : List Frame} {meth : Method} {c : Code} {G : GT} {A : Nat → Prop} (F : CallFix p m c cX9_instances 9 s args wsX9_instances RX9) (hr : meth.sig.returnType = (some .int)) (hlk : meth.locks = false) (hK : va_K G.1 vwCl (tyl G) s) (out : Int32 × St) (kb : St → Int32 → Int32 → Int32 → Int32 → Int32 → Int32 → Option (Int32 × St)) (k218 : St → Int32 → Int32 → Int32 → Int32 → Option (Int32 × St)) (Kb : ∀ (S : St) (x2 : Int32) (x3 : Int32) (x4 : Int32) (x5 : Int32) (x6 : Int32) (x7 : Int32) (H : Heap) (locs : List Loc) (ls : Array Slot), Wd shM idsM G A S H → va_S A s.heap H locs → lv_has ls 9 [(0, .ref (G.2.2 0 0)), (2, .int x2), (3, .int x3), (4, .int x4), (5, .int x5), (6, .int x6), (7, .int x7)] → kb S x2 x3 x4 x5 x6 x7 = some out → W p l e rm_X9_instances s m args below meth c H locs 0 0 (MQ below (QI shM idsM G A out) args s 0 0 A) (F0 m 151 ls [])) (K218 : ∀ (S : St) (x2 : Int32) (x3 : Int32) (x4 : Int32) (x5 : Int32) (H : Heap) (locs : List Loc) (ls : Array Slot), Wd shM idsM G A S H → va_S A s.heap H locs → lv_has ls 9 [(0, .ref (G.2.2 0 0)), (2, .int x2), (3, .int x3), (4, .int x4), (5, .int x5)] → k218 S x2 x3 x4 x5 = some out → W p l e rm_X9_instances s m args below meth c H locs 0 0 (MQ below (QI shM idsM G A out) args s 0 0 A) (F0 m 218 ls [])) : ∀ (S : St) (x2 : Int32) (x3 : Int32) (x4 : Int32) (x5 : Int32) (x6 : Int32) (x7 : Int32) (H : Heap) (locs : List Loc) (ls : Array Slot), Wd shM idsM G A S H → va_S A s.heap H locs → lv_has ls 9 [(0, .ref (G.2.2 0 0)), (2, .int x2), (3, .int x3), (4, .int x4), (5, .int x5), (6, .int x6), (7, .int x7)] → j_X9_instances_212 kb k218 S x2 x3 x4 x5 x6 x7 = some out → W p l e rm_X9_instances s m args below meth c H locs 0 0 (MQ below (QI shM idsM G A out) args s 0 0 A) (F0 m 212 ls []) := by
  intro S x2 x3 x4 x5 x6 x7 H locs ls hW hS hl h
  unfold j_X9_instances_212 at h
  obtain ⟨v_32, ev_32⟩ : ∃ y : Int32, y = x7 + (-1) := ⟨_, rfl⟩
  have h := lt_n ev_32 h
  refine lv_iinc (v := v_32) (lv' := [(7, .int v_32), (0, .ref (G.2.2 0 0)), (2, .int x2), (3, .int x3), (4, .int x4), (5, .int x5), (6, .int x6)]) F.1 F.2.1 dX9_instances_212 hl (k := 6) rfl (by rw [ev_32]; rfl) (by decide) rfl (fun ls hl => ?_)
  refine lv_goto (tgt := 151) F.1 F.2.1 dX9_instances_215 (by decide) ?_
  exact Kb _ _ _ _ _ _ _ _ _ _  hW hS (lv_sub hl [1, 2, 3, 4, 5, 6, 0] rfl) h
set_option maxHeartbeats 4000000 in
set_option maxRecDepth 100000 in
theorem w_X9_instances_151 {p : Program} {l : Launch} {e : Env} {s : State} {m : MethodId} {args : Array Value} {below : List Frame} {meth : Method} {c : Code} {G : GT} {A : Nat → Prop} (F : CallFix p m c cX9_instances 9 s args wsX9_instances RX9) (hr : meth.sig.returnType = (some .int)) (hlk : meth.locks = false) (hK : va_K G.1 vwCl (tyl G) s) (out : Int32 × St) (k218 : St → Int32 → Int32 → Int32 → Int32 → Option (Int32 × St)) (K218 : ∀ (S : St) (x2 : Int32) (x3 : Int32) (x4 : Int32) (x5 : Int32) (H : Heap) (locs : List Loc) (ls : Array Slot), Wd shM idsM G A S H → va_S A s.heap H locs → lv_has ls 9 [(0, .ref (G.2.2 0 0)), (2, .int x2), (3, .int x3), (4, .int x4), (5, .int x5)] → k218 S x2 x3 x4 x5 = some out → W p l e rm_X9_instances s m args below meth c H locs 0 0 (MQ below (QI shM idsM G A out) args s 0 0 A) (F0 m 218 ls [])) : ∀ n : Nat, ∀ (S : St) (x2 : Int32) (x3 : Int32) (x4 : Int32) (x5 : Int32) (x6 : Int32) (x7 : Int32) (H : Heap) (locs : List Loc) (ls : Array Slot), Wd shM idsM G A S H → va_S A s.heap H locs → lv_has ls 9 [(0, .ref (G.2.2 0 0)), (2, .int x2), (3, .int x3), (4, .int x4), (5, .int x5), (6, .int x6), (7, .int x7)] → l_X9_instances_151 k218 n S x2 x3 x4 x5 x6 x7 = some out → W p l e rm_X9_instances s m args below meth c H locs 0 0 (MQ below (QI shM idsM G A out) args s 0 0 A) (F0 m 151 ls []) := by
  intro n
  induction n with
  | zero =>
    intro S x2 x3 x4 x5 x6 x7 H locs ls hW hS hl h
    cases h
  | succ n Kb =>
    generalize hkb : l_X9_instances_151 k218 n = kb at Kb
    intro S x2 x3 x4 x5 x6 x7 H locs ls hW hS hl h
    rw [show l_X9_instances_151 k218 (n + 1) = b_X9_instances_151 (l_X9_instances_151 k218 n) k218 from rfl, hkb] at h
    unfold b_X9_instances_151 at h
    refine lv_iload F.1 F.2.1 dX9_instances_151 (lv_at hl 6 rfl) ?_
    refine lv_if_lt (tgt := 218) F.1 F.2.1 dX9_instances_153 (by decide) (fun c_28 => ?_) (fun c_28 => ?_)
    · have h := (if_pos c_28).symm.trans h
      exact K218 _ _ _ _ _ _ _ _  hW hS (lv_sub hl [0, 1, 2, 3, 4] rfl) h
    · have h := (if_neg c_28).symm.trans h
      refine lv_aload_n F.1 F.2.1 dX9_instances_156 rfl (lv_at hl 0 rfl) ?_
      refine rw_get (q0 := 0) F hK hW idM_0 rfl rfl in_X9_instances_X9 45 (by decide) lk_X9_instances_110 rfl dX9_instances_157 ?_
      refine lv_bipush (v := 6) F.1 F.2.1 dX9_instances_160 (by decide) ?_
      refine lv_iload_n F.1 F.2.1 dX9_instances_162 rfl (lv_at hl 1 rfl) ?_
      refine lv_iload F.1 F.2.1 dX9_instances_163 (lv_at hl 5 rfl) ?_
      refine lv_iadd F.1 F.2.1 dX9_instances_165 ?_
      refine lv_imul F.1 F.2.1 dX9_instances_166 ?_
      refine lv_iload F.1 F.2.1 dX9_instances_167 (lv_at hl 6 rfl) ?_
      refine lv_iadd F.1 F.2.1 dX9_instances_169 ?_
      obtain ⟨b_29, h⟩ := gd_some h
      refine rw_iald (q0 := 34) F hK hW idM_34 (fun _ => rfl) (ix_in b_29) dX9_instances_170 ?_
      refine lv_topi (fun v_30 ev_30 => ?_)
      have h := lt_n ev_30 h
      refine lv_istore (lv' := [(8, .int v_30), (0, .ref (G.2.2 0 0)), (2, .int x2), (3, .int x3), (4, .int x4), (5, .int x5), (6, .int x6), (7, .int x7)]) F.1 F.2.1 dX9_instances_171 hl (by decide) rfl (fun ls hl => ?_)
      refine lv_iload F.1 F.2.1 dX9_instances_173 (lv_at hl 0 rfl) ?_
      refine lv_bipush (v := -4) F.1 F.2.1 dX9_instances_175 (by decide) ?_
      refine lv_icmp_eq (tgt := 212) F.1 F.2.1 dX9_instances_177 (by decide) (fun c_31 => ?_) (fun c_31 => ?_)
      · have h := (if_pos c_31).symm.trans h
        exact w_X9_instances_212 F hr hlk hK out kb k218 Kb K218 _ _ _ _ _ _ _ _ _ _  hW hS (lv_sub hl [1, 2, 3, 4, 5, 6, 7] rfl) h
      · have h := (if_neg c_31).symm.trans h
        refine lv_aload_n F.1 F.2.1 dX9_instances_180 rfl (lv_at hl 1 rfl) ?_
        refine rw_get (q0 := 0) F hK hW idM_0 rfl rfl in_X9_instances_X9 12 (by decide) lk_X9_instances_31 rfl dX9_instances_181 ?_
        refine lv_iload F.1 F.2.1 dX9_instances_184 (lv_at hl 0 rfl) ?_
        obtain ⟨b_33, h⟩ := gd_some h
        refine rw_iald (q0 := 8) F hK hW idM_8 (fun _ => rfl) (ix_in b_33) dX9_instances_186 ?_
        refine lv_topi (fun v_34 ev_34 => ?_)
        have h := lt_n ev_34 h
        refine lv_if_eq (tgt := 212) F.1 F.2.1 dX9_instances_187 (by decide) (fun c_35 => ?_) (fun c_35 => ?_)
        · have h := (if_pos c_35).symm.trans h
          exact w_X9_instances_212 F hr hlk hK out kb k218 Kb K218 _ _ _ _ _ _ _ _ _ _  hW hS (lv_sub hl [1, 2, 3, 4, 5, 6, 7] rfl) h
        · have h := (if_neg c_35).symm.trans h
          refine lv_aload_n F.1 F.2.1 dX9_instances_190 rfl (lv_at hl 1 rfl) ?_
          refine rw_get (q0 := 0) F hK hW idM_0 rfl rfl in_X9_instances_X9 18 (by decide) lk_X9_instances_50 rfl dX9_instances_191 ?_
          refine lv_iload F.1 F.2.1 dX9_instances_194 (lv_at hl 0 rfl) ?_
          obtain ⟨b_36, h⟩ := gd_some h
          refine rw_zald (q0 := 14) F hK hW idM_14 (fun _ => rfl) (ix_in b_36) dX9_instances_196 ?_
          refine lv_topi (fun v_37 ev_37 => ?_)
          have h := lt_n ev_37 h
          refine lv_if_ne (tgt := 212) F.1 F.2.1 dX9_instances_197 (by decide) (fun c_38 => ?_) (fun c_38 => ?_)
          · have h := (if_neg c_38).symm.trans h
            exact w_X9_instances_212 F hr hlk hK out kb k218 Kb K218 _ _ _ _ _ _ _ _ _ _  hW hS (lv_sub hl [1, 2, 3, 4, 5, 6, 7] rfl) h
          · have h := (if_pos c_38).symm.trans h
            refine lv_aload_n F.1 F.2.1 dX9_instances_200 rfl (lv_at hl 1 rfl) ?_
            refine rw_get (q0 := 0) F hK hW idM_0 rfl rfl in_X9_instances_X9 49 (by decide) lk_X9_instances_119 rfl dX9_instances_201 ?_
            refine lv_iload F.1 F.2.1 dX9_instances_204 (lv_at hl 5 rfl) ?_
            refine lv_iload F.1 F.2.1 dX9_instances_206 (lv_at hl 0 rfl) ?_
            obtain ⟨b_39, h⟩ := gd_some h
            refine rw_iast ndM (q0 := 37) F hK hW hS idM_37 (fun _ => rfl) (ix_in b_39) dX9_instances_208 (fun H locs S_40 eS_40 hW hS => ?_)
            have h := lt_n eS_40 h
            obtain ⟨v_41, ev_41⟩ : ∃ y : Int32, y = x5 + 1 := ⟨_, rfl⟩
            have h := lt_n ev_41 h
            refine lv_iinc (v := v_41) (lv' := [(5, .int v_41), (8, .int v_30), (0, .ref (G.2.2 0 0)), (2, .int x2), (3, .int x3), (4, .int x4), (6, .int x6), (7, .int x7)]) F.1 F.2.1 dX9_instances_209 hl (k := 5) rfl (by rw [ev_41]; rfl) (by decide) rfl (fun ls hl => ?_)
            exact w_X9_instances_212 F hr hlk hK out kb k218 Kb K218 _ _ _ _ _ _ _ _ _ _  hW hS (lv_sub hl [2, 3, 4, 5, 0, 6, 7] rfl) h
set_option maxHeartbeats 4000000 in
set_option maxRecDepth 100000 in
theorem w_X9_instances_75 {p : Program} {l : Launch} {e : Env} {s : State} {m : MethodId} {args : Array Value} {below : List Frame} {meth : Method} {c : Code} {G : GT} {A : Nat → Prop} (F : CallFix p m c cX9_instances 9 s args wsX9_instances RX9) (hr : meth.sig.returnType = (some .int)) (hlk : meth.locks = false) (hK : va_K G.1 vwCl (tyl G) s) (out : Int32 × St) (k221 : St → Int32 → Int32 → Int32 → Option (Int32 × St)) (K221 : ∀ (S : St) (x2 : Int32) (x3 : Int32) (x4 : Int32) (H : Heap) (locs : List Loc) (ls : Array Slot), Wd shM idsM G A S H → va_S A s.heap H locs → lv_has ls 9 [(0, .ref (G.2.2 0 0)), (2, .int x2), (3, .int x3), (4, .int x4)] → k221 S x2 x3 x4 = some out → W p l e rm_X9_instances s m args below meth c H locs 0 0 (MQ below (QI shM idsM G A out) args s 0 0 A) (F0 m 221 ls [])) : ∀ n : Nat, ∀ (S : St) (x2 : Int32) (x3 : Int32) (x4 : Int32) (x5 : Int32) (H : Heap) (locs : List Loc) (ls : Array Slot), Wd shM idsM G A S H → va_S A s.heap H locs → lv_has ls 9 [(0, .ref (G.2.2 0 0)), (2, .int x2), (3, .int x3), (4, .int x4), (5, .int x5)] → l_X9_instances_75 k221 n S x2 x3 x4 x5 = some out → W p l e rm_X9_instances s m args below meth c H locs 0 0 (MQ below (QI shM idsM G A out) args s 0 0 A) (F0 m 75 ls []) := by
  intro n
  induction n with
  | zero =>
    intro S x2 x3 x4 x5 H locs ls hW hS hl h
    cases h
  | succ n Kb =>
    generalize hkb : l_X9_instances_75 k221 n = kb at Kb
    intro S x2 x3 x4 x5 H locs ls hW hS hl h
    rw [show l_X9_instances_75 k221 (n + 1) = b_X9_instances_75 (l_X9_instances_75 k221 n) k221 from rfl, hkb] at h
    unfold b_X9_instances_75 at h
    refine lv_iload F.1 F.2.1 dX9_instances_75 (lv_at hl 4 rfl) ?_
    refine lv_if_le (tgt := 221) F.1 F.2.1 dX9_instances_77 (by decide) (fun c_11 => ?_) (fun c_11 => ?_)
    · have h := (if_pos c_11).symm.trans h
      exact K221 _ _ _ _ _ _ _  hW hS (lv_sub hl [0, 1, 2, 3] rfl) h
    · have h := (if_neg c_11).symm.trans h
      obtain ⟨v_12, ev_12⟩ : ∃ y : Int32, y = x5 + (-1) := ⟨_, rfl⟩
      have h := lt_n ev_12 h
      refine lv_iinc (v := v_12) (lv' := [(5, .int v_12), (0, .ref (G.2.2 0 0)), (2, .int x2), (3, .int x3), (4, .int x4)]) F.1 F.2.1 dX9_instances_80 hl (k := 4) rfl (by rw [ev_12]; rfl) (by decide) rfl (fun ls hl => ?_)
      refine lv_aload_n F.1 F.2.1 dX9_instances_83 rfl (lv_at hl 1 rfl) ?_
      refine rw_get (q0 := 0) F hK hW idM_0 rfl rfl in_X9_instances_X9 49 (by decide) lk_X9_instances_119 rfl dX9_instances_84 ?_
      refine lv_iload F.1 F.2.1 dX9_instances_87 (lv_at hl 0 rfl) ?_
      obtain ⟨b_13, h⟩ := gd_some h
      refine rw_iald (q0 := 37) F hK hW idM_37 (fun _ => rfl) (ix_in b_13) dX9_instances_89 ?_
      refine lv_topi (fun v_14 ev_14 => ?_)
      have h := lt_n ev_14 h
      refine lv_istore (lv' := [(6, .int v_14), (5, .int v_12), (0, .ref (G.2.2 0 0)), (2, .int x2), (3, .int x3), (4, .int x4)]) F.1 F.2.1 dX9_instances_90 hl (by decide) rfl (fun ls hl => ?_)
      refine lv_aload_n F.1 F.2.1 dX9_instances_92 rfl (lv_at hl 2 rfl) ?_
      refine rw_get (q0 := 0) F hK hW idM_0 rfl rfl in_X9_instances_X9 48 (by decide) lk_X9_instances_116 rfl dX9_instances_93 ?_
      refine lv_iload F.1 F.2.1 dX9_instances_96 (lv_at hl 0 rfl) ?_
      obtain ⟨b_15, h⟩ := gd_some h
      refine rw_zald (q0 := 36) F hK hW idM_36 (fun _ => rfl) (ix_in b_15) dX9_instances_98 ?_
      refine lv_topi (fun v_16 ev_16 => ?_)
      have h := lt_n ev_16 h
      refine lv_if_ne (tgt := 218) F.1 F.2.1 dX9_instances_99 (by decide) (fun c_17 => ?_) (fun c_17 => ?_)
      · have h := (if_neg c_17).symm.trans h
        exact w_X9_instances_218 F hr hlk hK out kb k221 Kb K221 _ _ _ _ _ _ _ _  hW hS (lv_sub hl [2, 3, 4, 5, 1] rfl) h
      · have h := (if_pos c_17).symm.trans h
        refine lv_aload_n F.1 F.2.1 dX9_instances_102 rfl (lv_at hl 2 rfl) ?_
        refine rw_get (q0 := 0) F hK hW idM_0 rfl rfl in_X9_instances_X9 48 (by decide) lk_X9_instances_116 rfl dX9_instances_103 ?_
        refine lv_iload F.1 F.2.1 dX9_instances_106 (lv_at hl 0 rfl) ?_
        refine lv_iconst (v := 1) F.1 F.2.1 dX9_instances_108 (by decide) ?_
        obtain ⟨b_18, h⟩ := gd_some h
        refine rw_zast ndM (q0 := 36) F hK hW hS idM_36 (fun _ => rfl) (ix_in b_18) dX9_instances_109 (fun H locs S_19 eS_19 hW hS => ?_)
        have h := lt_n eS_19 h
        refine lv_aload_n F.1 F.2.1 dX9_instances_110 rfl (lv_at hl 2 rfl) ?_
        refine rw_get (q0 := 0) F hK hW idM_0 rfl rfl in_X9_instances_X9 47 (by decide) lk_X9_instances_113 rfl dX9_instances_111 ?_
        refine lv_aload_n F.1 F.2.1 dX9_instances_114 rfl (lv_at hl 2 rfl) ?_
        refine rw_get (q0 := 0) F hK hW idM_0 rfl rfl in_X9_instances_X9 46 (by decide) lk_X9_instances_250 rfl dX9_instances_115 ?_
        refine lv_iload F.1 F.2.1 dX9_instances_118 (lv_at hl 0 rfl) ?_
        obtain ⟨b_20, h⟩ := gd_some h
        refine rw_iast ndM (q0 := 35) F hK hW hS idM_35 (fun _ => rfl) (ix_in b_20) dX9_instances_120 (fun H locs S_21 eS_21 hW hS => ?_)
        have h := lt_n eS_21 h
        refine lv_aload_n F.1 F.2.1 dX9_instances_121 rfl (lv_at hl 2 rfl) ?_
        refine lv_dup F.1 F.2.1 dX9_instances_122 rfl ?_
        refine rw_get (q0 := 0) F hK hW idM_0 rfl rfl in_X9_instances_X9 46 (by decide) lk_X9_instances_250 rfl dX9_instances_123 ?_
        refine lv_iconst (v := 1) F.1 F.2.1 dX9_instances_126 (by decide) ?_
        refine lv_iadd F.1 F.2.1 dX9_instances_127 ?_
        refine rw_put ndM (q0 := 0) (x := (S_21 0 0 46) + 1) F hK hW hS idM_0 rfl rfl in_X9_instances_X9 tyX9 tyX9_ok nmX9 46 (by decide) lk_X9_instances_250 rfl (ty := .int) (by decide +kernel) rfl rfl (Nat.le_of_ble_eq_true rfl) rfl dX9_instances_128 (fun H locs S_22 eS_22 hW hS => ?_)
        have h := lt_n eS_22 h
        refine lv_iload_n F.1 F.2.1 dX9_instances_131 rfl (lv_at hl 4 rfl) ?_
        refine lv_aload_n F.1 F.2.1 dX9_instances_132 rfl (lv_at hl 2 rfl) ?_
        refine rw_get (q0 := 0) F hK hW idM_0 rfl rfl in_X9_instances_X9 24 (by decide) lk_X9_instances_59 rfl dX9_instances_133 ?_
        refine lv_aload_n F.1 F.2.1 dX9_instances_136 rfl (lv_at hl 2 rfl) ?_
        refine rw_get (q0 := 0) F hK hW idM_0 rfl rfl in_X9_instances_X9 44 (by decide) lk_X9_instances_107 rfl dX9_instances_137 ?_
        refine lv_iload_n F.1 F.2.1 dX9_instances_140 rfl (lv_at hl 3 rfl) ?_
        refine lv_iload F.1 F.2.1 dX9_instances_141 (lv_at hl 0 rfl) ?_
        refine lv_iadd F.1 F.2.1 dX9_instances_143 ?_
        obtain ⟨b_23, h⟩ := gd_some h
        refine rw_iald (q0 := 33) F hK hW idM_33 (fun _ => rfl) (ix_in b_23) dX9_instances_144 ?_
        refine lv_topi (fun v_24 ev_24 => ?_)
        have h := lt_n ev_24 h
        obtain ⟨b_25, h⟩ := gd_some h
        refine rw_iald (q0 := 17) F hK hW idM_17 (fun _ => rfl) (ix_in b_25) dX9_instances_145 ?_
        refine lv_topi (fun v_26 ev_26 => ?_)
        have h := lt_n ev_26 h
        refine lv_iadd F.1 F.2.1 dX9_instances_146 ?_
        refine lv_topi (fun v_27 ev_27 => ?_)
        have h := lt_n ev_27 h
        refine lv_istore_n (lv' := [(3, .int v_27), (6, .int v_14), (5, .int v_12), (0, .ref (G.2.2 0 0)), (2, .int x2), (4, .int x4)]) F.1 F.2.1 dX9_instances_147 rfl hl (by decide) rfl (fun ls hl => ?_)
        refine lv_iconst (v := 5) F.1 F.2.1 dX9_instances_148 (by decide) ?_
        refine lv_istore (lv' := [(7, .int 5), (3, .int v_27), (6, .int v_14), (5, .int v_12), (0, .ref (G.2.2 0 0)), (2, .int x2), (4, .int x4)]) F.1 F.2.1 dX9_instances_149 hl (by decide) rfl (fun ls hl => ?_)
        refine w_X9_instances_151 F hr hlk hK out _ ?_ 5000 _ _ _ _ _ _ _ _ _ _  hW hS (lv_sub hl [4, 5, 1, 6, 3, 2, 0] rfl) h
        · intro S x2 x3 x4 x5 H locs ls hW hS hl h
          exact w_X9_instances_218 F hr hlk hK out kb k221 Kb K221 _ _ _ _ _ _ _ _  hW hS hl h
set_option maxHeartbeats 4000000 in
set_option maxRecDepth 100000 in
theorem w_X9_instances_42 {p : Program} {l : Launch} {e : Env} {s : State} {m : MethodId} {args : Array Value} {below : List Frame} {meth : Method} {c : Code} {G : GT} {A : Nat → Prop} (F : CallFix p m c cX9_instances 9 s args wsX9_instances RX9) (hr : meth.sig.returnType = (some .int)) (hlk : meth.locks = false) (hK : va_K G.1 vwCl (tyl G) s) (out : Int32 × St) : ∀ n : Nat, ∀ (S : St) (x2 : Int32) (x3 : Int32) (x4 : Int32) (H : Heap) (locs : List Loc) (ls : Array Slot), Wd shM idsM G A S H → va_S A s.heap H locs → lv_has ls 9 [(0, .ref (G.2.2 0 0)), (2, .int x2), (3, .int x3), (4, .int x4)] → l_X9_instances_42 n S x2 x3 x4 = some out → W p l e rm_X9_instances s m args below meth c H locs 0 0 (MQ below (QI shM idsM G A out) args s 0 0 A) (F0 m 42 ls []) := by
  intro n
  induction n with
  | zero =>
    intro S x2 x3 x4 H locs ls hW hS hl h
    cases h
  | succ n Kb =>
    generalize hkb : l_X9_instances_42 n = kb at Kb
    intro S x2 x3 x4 H locs ls hW hS hl h
    rw [show l_X9_instances_42 (n + 1) = b_X9_instances_42 (l_X9_instances_42 n) from rfl, hkb] at h
    unfold b_X9_instances_42 at h
    refine lv_iload F.1 F.2.1 dX9_instances_42 (lv_at hl 3 rfl) ?_
    refine lv_aload_n F.1 F.2.1 dX9_instances_44 rfl (lv_at hl 0 rfl) ?_
    refine rw_get (q0 := 0) F hK hW idM_0 rfl rfl in_X9_instances_X9 11 (by decide) lk_X9_instances_163 rfl dX9_instances_45 ?_
    refine lv_icmp_ge (tgt := 227) F.1 F.2.1 dX9_instances_48 (by decide) (fun c_7 => ?_) (fun c_7 => ?_)
    · have h := (if_pos c_7).symm.trans h
      refine lv_iload_n F.1 F.2.1 dX9_instances_227 rfl (lv_at hl 2 rfl) ?_
      exact rw_ret F hr hlk hK hW hS h dX9_instances_228
    · have h := (if_neg c_7).symm.trans h
      refine lv_iconst (v := 0) F.1 F.2.1 dX9_instances_51 (by decide) ?_
      refine lv_istore (lv' := [(5, .int 0), (0, .ref (G.2.2 0 0)), (2, .int x2), (3, .int x3), (4, .int x4)]) F.1 F.2.1 dX9_instances_52 hl (by decide) rfl (fun ls hl => ?_)
      refine lv_aload_n F.1 F.2.1 dX9_instances_54 rfl (lv_at hl 1 rfl) ?_
      refine rw_get (q0 := 0) F hK hW idM_0 rfl rfl in_X9_instances_X9 18 (by decide) lk_X9_instances_50 rfl dX9_instances_55 ?_
      refine lv_iload F.1 F.2.1 dX9_instances_58 (lv_at hl 4 rfl) ?_
      obtain ⟨b_8, h⟩ := gd_some h
      refine rw_zald (q0 := 14) F hK hW idM_14 (fun _ => rfl) (ix_in b_8) dX9_instances_60 ?_
      refine lv_topi (fun v_9 ev_9 => ?_)
      have h := lt_n ev_9 h
      refine lv_if_eq (tgt := 75) F.1 F.2.1 dX9_instances_61 (by decide) (fun c_10 => ?_) (fun c_10 => ?_)
      · have h := (if_pos c_10).symm.trans h
        refine w_X9_instances_75 F hr hlk hK out _ ?_ 5000 _ _ _ _ _ _ _ _  hW hS (lv_sub hl [1, 2, 3, 4, 0] rfl) h
        · intro S x2 x3 x4 H locs ls hW hS hl h
          obtain ⟨v_42, ev_42⟩ : ∃ y : Int32, y = x4 + 1 := ⟨_, rfl⟩
          have h := lt_n ev_42 h
          refine lv_iinc (v := v_42) (lv' := [(4, .int v_42), (0, .ref (G.2.2 0 0)), (2, .int x2), (3, .int x3)]) F.1 F.2.1 dX9_instances_221 hl (k := 3) rfl (by rw [ev_42]; rfl) (by decide) rfl (fun ls hl => ?_)
          refine lv_goto (tgt := 42) F.1 F.2.1 dX9_instances_224 (by decide) ?_
          exact Kb _ _ _ _ _ _ _  hW hS (lv_sub hl [1, 2, 3, 0] rfl) h
      · have h := (if_neg c_10).symm.trans h
        refine lv_aload_n F.1 F.2.1 dX9_instances_64 rfl (lv_at hl 1 rfl) ?_
        refine rw_get (q0 := 0) F hK hW idM_0 rfl rfl in_X9_instances_X9 49 (by decide) lk_X9_instances_119 rfl dX9_instances_65 ?_
        refine lv_iconst (v := 0) F.1 F.2.1 dX9_instances_68 (by decide) ?_
        refine lv_iload F.1 F.2.1 dX9_instances_69 (lv_at hl 4 rfl) ?_
        obtain ⟨b_43, h⟩ := gd_some h
        refine rw_iast ndM (q0 := 37) F hK hW hS idM_37 (fun _ => rfl) (ix_in b_43) dX9_instances_71 (fun H locs S_44 eS_44 hW hS => ?_)
        have h := lt_n eS_44 h
        refine lv_iconst (v := 1) F.1 F.2.1 dX9_instances_72 (by decide) ?_
        refine lv_istore (lv' := [(5, .int 1), (0, .ref (G.2.2 0 0)), (2, .int x2), (3, .int x3), (4, .int x4)]) F.1 F.2.1 dX9_instances_73 hl (by decide) rfl (fun ls hl => ?_)
        refine w_X9_instances_75 F hr hlk hK out _ ?_ 5000 _ _ _ _ _ _ _ _  hW hS (lv_sub hl [1, 2, 3, 4, 0] rfl) h
        · intro S x2 x3 x4 H locs ls hW hS hl h
          obtain ⟨v_45, ev_45⟩ : ∃ y : Int32, y = x4 + 1 := ⟨_, rfl⟩
          have h := lt_n ev_45 h
          refine lv_iinc (v := v_45) (lv' := [(4, .int v_45), (0, .ref (G.2.2 0 0)), (2, .int x2), (3, .int x3)]) F.1 F.2.1 dX9_instances_221 hl (k := 3) rfl (by rw [ev_45]; rfl) (by decide) rfl (fun ls hl => ?_)
          refine lv_goto (tgt := 42) F.1 F.2.1 dX9_instances_224 (by decide) ?_
          exact Kb _ _ _ _ _ _ _  hW hS (lv_sub hl [1, 2, 3, 0] rfl) h
set_option maxHeartbeats 4000000 in
set_option maxRecDepth 100000 in
theorem c_X9_instances (l : Launch) (G : GT) (A : Nat → Prop) (a0 : Int32) (S : St) (out : Int32 × St) (h : f_X9_instances a0 S = some out) : Met l yX9_instances wsX9_instances rm_X9_instances (va_Pc [.ref (G.2.2 0 0), .int a0] (WD shM idsM G A S)) (QI shM idsM G A out) 0 0 A := by
  refine Met.ofW (cc := cX9_instances) (maxL := 9) (ret := (some .int)) (by decide) rfl ?_
  intro p e s m args below meth c s₁ B hml hv
  obtain ⟨rfl, hW, hK⟩ := hv
  have F : CallFix p m c cX9_instances 9 s _ wsX9_instances RX9 := ⟨B.exec, B.bytes, hml, findClass_of_methodNamed B.named, atoms_spec (ws := wsX9_instances) B.pre⟩
  have hr := B.returns
  have hlk := B.notSynchronized
  have hS : va_S A s.heap s.heap [] := va_S.rf
  have hl := lv_entry ([.ref (G.2.2 0 0), .int a0]) (n := 9) (Nat.le_of_ble_eq_true rfl)
  rw [lg_entry_eq]
  generalize (lg_sl ([.ref (G.2.2 0 0), .int a0]) ++ List.replicate (9 - (lg_sl ([.ref (G.2.2 0 0), .int a0])).length) Slot.unset).toArray = ls at hl ⊢
  have hl : lv_has ls 9 [(0, .ref (G.2.2 0 0)), (1, .int a0)] := hl
  unfold f_X9_instances at h
  refine lv_sipush (v := 200) F.1 F.2.1 dX9_instances_0 (by decide) ?_
  refine lv_iload_n F.1 F.2.1 dX9_instances_3 rfl (lv_at hl 1 rfl) ?_
  refine lv_imul F.1 F.2.1 dX9_instances_4 ?_
  refine lv_topi (fun v_1 ev_1 => ?_)
  have h := lt_n ev_1 h
  refine lv_istore_n (lv' := [(2, .int v_1), (0, .ref (G.2.2 0 0)), (1, .int a0)]) F.1 F.2.1 dX9_instances_5 rfl hl (by decide) rfl (fun ls hl => ?_)
  refine lv_iconst (v := 0) F.1 F.2.1 dX9_instances_6 (by decide) ?_
  refine lv_istore_n (lv' := [(3, .int 0), (2, .int v_1), (0, .ref (G.2.2 0 0)), (1, .int a0)]) F.1 F.2.1 dX9_instances_7 rfl hl (by decide) rfl (fun ls hl => ?_)
  refine lv_aload_n F.1 F.2.1 dX9_instances_8 rfl (lv_at hl 2 rfl) ?_
  refine lv_iconst (v := 0) F.1 F.2.1 dX9_instances_9 (by decide) ?_
  refine rw_put ndM (q0 := 0) (x := 0) F hK hW hS idM_0 rfl rfl in_X9_instances_X9 tyX9 tyX9_ok nmX9 46 (by decide) lk_X9_instances_250 rfl (ty := .int) (by decide +kernel) rfl rfl (Nat.le_of_ble_eq_true rfl) rfl dX9_instances_10 (fun H locs S_2 eS_2 hW hS => ?_)
  have h := lt_n eS_2 h
  refine lv_iconst (v := 0) F.1 F.2.1 dX9_instances_13 (by decide) ?_
  refine lv_istore (lv' := [(4, .int 0), (3, .int 0), (2, .int v_1), (0, .ref (G.2.2 0 0)), (1, .int a0)]) F.1 F.2.1 dX9_instances_14 hl (by decide) rfl (fun ls hl => ?_)
  refine w_X9_instances_16 F hr hlk hK out _ ?_ 5000 _ _ _ _ _ _ _  hW hS (lv_sub hl [3, 2, 1, 0] rfl) h
  · intro S x2 x3 H locs ls hW hS hl h
    refine lv_iconst (v := 0) F.1 F.2.1 dX9_instances_39 (by decide) ?_
    refine lv_istore (lv' := [(4, .int 0), (0, .ref (G.2.2 0 0)), (2, .int x2), (3, .int x3)]) F.1 F.2.1 dX9_instances_40 hl (by decide) rfl (fun ls hl => ?_)
    refine w_X9_instances_42 F hr hlk hK out   5000 _ _ _ _ _ _ _  hW hS (lv_sub hl [1, 2, 3, 0] rfl) h
/-! CellCoverModel.cover(I)I -/
abbrev rm_X9_cover : Room := { frames := 3, cells := 0, slots := 0, locals := 89 }
theorem in_X9_cover_X9 : ∀ w ∈ wsX90, w ∈ wsX9_cover := by decide +kernel
theorem lk_X9_cover_256 : Cond.fieldLink RX9 256 "CellCoverModel" "coverHow" "I" ∈ wsX9_cover := by decide +kernel
theorem lk_X9_cover_132 : Cond.fieldLink RX9 132 "CellCoverModel" "hasCover" "Z" ∈ wsX9_cover := by decide +kernel
theorem lk_X9_cover_261 : Cond.fieldLink RX9 261 "CellCoverModel" "coverArea" "I" ∈ wsX9_cover := by decide +kernel
set_option maxHeartbeats 4000000 in
set_option maxRecDepth 100000 in
theorem c_X9_cover (l : Launch) (G : GT) (A : Nat → Prop) (a0 : Int32) (S : St) (out : Int32 × St) (h : f_X9_cover a0 S = some out) : Met l yX9_cover wsX9_cover rm_X9_cover (va_Pc [.ref (G.2.2 0 0), .int a0] (WD shM idsM G A S)) (QI shM idsM G A out) 0 0 A := by
  refine Met.ofW (cc := cX9_cover) (maxL := 3) (ret := (some .int)) (by decide) rfl ?_
  intro p e s m args below meth c s₁ B hml hv
  obtain ⟨rfl, hW, hK⟩ := hv
  have F : CallFix p m c cX9_cover 3 s _ wsX9_cover RX9 := ⟨B.exec, B.bytes, hml, findClass_of_methodNamed B.named, atoms_spec (ws := wsX9_cover) B.pre⟩
  have hr := B.returns
  have hlk := B.notSynchronized
  have hS : va_S A s.heap s.heap [] := va_S.rf
  have hl := lv_entry ([.ref (G.2.2 0 0), .int a0]) (n := 3) (Nat.le_of_ble_eq_true rfl)
  rw [lg_entry_eq]
  generalize (lg_sl ([.ref (G.2.2 0 0), .int a0]) ++ List.replicate (3 - (lg_sl ([.ref (G.2.2 0 0), .int a0])).length) Slot.unset).toArray = ls at hl ⊢
  have hl : lv_has ls 3 [(0, .ref (G.2.2 0 0)), (1, .int a0)] := hl
  unfold f_X9_cover at h
  refine lv_iload_n F.1 F.2.1 dX9_cover_0 rfl (lv_at hl 1 rfl) ?_
  refine lv_i2l (v := a0.toInt64) F.1 F.2.1 dX9_cover_1 rfl ?_
  refine lv_lconst (v := 0) F.1 F.2.1 dX9_cover_2 (by decide) ?_
  refine lv_lconst (v := 1) F.1 F.2.1 dX9_cover_3 (by decide) ?_
  obtain ⟨r_2, S_3, hq_1, h⟩ := bi_some h
  refine rw_si F hK hW hS [.long a0.toInt64, .long 0, .long 1] (rest := []) (c_X9_in l G A a0.toInt64 0 1 S (r_2, S_3) hq_1) (va_cwS 3 F.2.2.2.2 gX9_cover_X9_in rfl rfl rfl (by decide +kernel) ⟨Nat.le_of_ble_eq_true rfl, Nat.le_of_ble_eq_true rfl⟩) rfl hl.1 rfl (Nat.le_of_ble_eq_true rfl) dX9_cover_4 (fun H locs hW hS => ?_)
  refine lv_if_ne (tgt := 12) F.1 F.2.1 dX9_cover_7 (by decide) (fun c_4 => ?_) (fun c_4 => ?_)
  · have h := (if_neg c_4).symm.trans h
    refine lv_aload_n F.1 F.2.1 dX9_cover_12 rfl (lv_at hl 0 rfl) ?_
    refine lv_iconst (v := 0) F.1 F.2.1 dX9_cover_13 (by decide) ?_
    refine lv_iload_n F.1 F.2.1 dX9_cover_14 rfl (lv_at hl 1 rfl) ?_
    refine lv_bipush (v := -4) F.1 F.2.1 dX9_cover_15 (by decide) ?_
    obtain ⟨r_6, S_7, hq_5, h⟩ := bi_some h
    refine rw_vi F hK hW hS [.int 0, .int a0, .int ((-4))] (rest := []) (c_X9_best l G A 0 a0 ((-4)) S_3 (r_6, S_7) hq_5) (cwV 3 F.2.2.2.2 gX9_cover_X9_best rfl rfl rfl (by decide +kernel) ⟨Nat.le_of_ble_eq_true rfl, Nat.le_of_ble_eq_true rfl⟩) (rw_recv (q0 := 0) hK hW idM_0 rfl rfl) rfl hl.1 rfl (Nat.le_of_ble_eq_true rfl) dX9_cover_17 (fun H locs hW hS => ?_)
    refine lv_istore_n (lv' := [(2, .int r_6), (0, .ref (G.2.2 0 0)), (1, .int a0)]) F.1 F.2.1 dX9_cover_20 rfl hl (by decide) rfl (fun ls hl => ?_)
    refine lv_iload_n F.1 F.2.1 dX9_cover_21 rfl (lv_at hl 0 rfl) ?_
    refine lv_bipush (v := -4) F.1 F.2.1 dX9_cover_22 (by decide) ?_
    refine lv_icmp_eq (tgt := 32) F.1 F.2.1 dX9_cover_24 (by decide) (fun c_8 => ?_) (fun c_8 => ?_)
    · have h := (if_pos c_8).symm.trans h
      refine lv_aload_n F.1 F.2.1 dX9_cover_32 rfl (lv_at hl 1 rfl) ?_
      refine lv_iload_n F.1 F.2.1 dX9_cover_33 rfl (lv_at hl 2 rfl) ?_
      refine rw_put ndM (q0 := 0) (x := a0) F hK hW hS idM_0 rfl rfl in_X9_cover_X9 tyX9 tyX9_ok nmX9 40 (by decide) lk_X9_cover_256 rfl (ty := .int) (by decide +kernel) rfl rfl (Nat.le_of_ble_eq_true rfl) rfl dX9_cover_34 (fun H locs S_9 eS_9 hW hS => ?_)
      have h := lt_n eS_9 h
      refine lv_aload_n F.1 F.2.1 dX9_cover_37 rfl (lv_at hl 1 rfl) ?_
      refine lv_iconst (v := 1) F.1 F.2.1 dX9_cover_38 (by decide) ?_
      refine rw_put ndM (q0 := 0) (x := 1) F hK hW hS idM_0 rfl rfl in_X9_cover_X9 tyX9 tyX9_ok nmX9 10 (by decide) lk_X9_cover_132 rfl (ty := .boolean) (by decide +kernel) (by decide) (by decide) (Nat.le_of_ble_eq_true rfl) rfl dX9_cover_39 (fun H locs S_10 eS_10 hW hS => ?_)
      have h := lt_n eS_10 h
      refine lv_aload_n F.1 F.2.1 dX9_cover_42 rfl (lv_at hl 1 rfl) ?_
      refine lv_aload_n F.1 F.2.1 dX9_cover_43 rfl (lv_at hl 1 rfl) ?_
      refine lv_iconst (v := 0) F.1 F.2.1 dX9_cover_44 (by decide) ?_
      obtain ⟨r_12, S_13, hq_11, h⟩ := bi_some h
      refine rw_vi F hK hW hS [.int 0] (rest := [.ref (G.2.2 0 0)]) (c_X9_instances l G A 0 S_10 (r_12, S_13) hq_11) (cwV 1 F.2.2.2.2 gX9_cover_X9_instances rfl rfl rfl (by decide +kernel) ⟨Nat.le_of_ble_eq_true rfl, Nat.le_of_ble_eq_true rfl⟩) (rw_recv (q0 := 0) hK hW idM_0 rfl rfl) rfl hl.1 rfl (Nat.le_of_ble_eq_true rfl) dX9_cover_45 (fun H locs hW hS => ?_)
      refine rw_put ndM (q0 := 0) (x := r_12) F hK hW hS idM_0 rfl rfl in_X9_cover_X9 tyX9 tyX9_ok nmX9 50 (by decide) lk_X9_cover_261 rfl (ty := .int) (by decide +kernel) rfl rfl (Nat.le_of_ble_eq_true rfl) rfl dX9_cover_48 (fun H locs S_14 eS_14 hW hS => ?_)
      have h := lt_n eS_14 h
      refine lv_iconst (v := 0) F.1 F.2.1 dX9_cover_51 (by decide) ?_
      exact rw_ret F hr hlk hK hW hS h dX9_cover_52
    · have h := (if_neg c_8).symm.trans h
      refine lv_bipush (v := -100) F.1 F.2.1 dX9_cover_27 (by decide) ?_
      refine lv_iload_n F.1 F.2.1 dX9_cover_29 rfl (lv_at hl 0 rfl) ?_
      refine lv_isub F.1 F.2.1 dX9_cover_30 ?_
      exact rw_ret F hr hlk hK hW hS h dX9_cover_31
  · have h := (if_pos c_4).symm.trans h
    refine lv_iconst (v := -1) F.1 F.2.1 dX9_cover_10 (by decide) ?_
    exact rw_ret F hr hlk hK hW hS h dX9_cover_11
/-! CellCoverModel.best(II)I -/
abbrev rm_X9_best_ : Room := { frames := 2, cells := 0, slots := 0, locals := 46 }
theorem in_X9_best__X9 : ∀ w ∈ wsX90, w ∈ wsX9_best_ := by decide +kernel
theorem lk_X9_best__189 : Cond.constantLong RX9 189 8 ∈ wsX9_best_ := by decide +kernel
theorem lk_X9_best__132 : Cond.fieldLink RX9 132 "CellCoverModel" "hasCover" "Z" ∈ wsX9_best_ := by decide +kernel
theorem lk_X9_best__98 : Cond.fieldLink RX9 98 "CellCoverModel" "has" "[Z" ∈ wsX9_best_ := by decide +kernel
theorem lk_X9_best__110 : Cond.fieldLink RX9 110 "CellCoverModel" "bestPins" "[I" ∈ wsX9_best_ := by decide +kernel
theorem lk_X9_best__107 : Cond.fieldLink RX9 107 "CellCoverModel" "bestCell" "[I" ∈ wsX9_best_ := by decide +kernel
theorem lk_X9_best__104 : Cond.fieldLink RX9 104 "CellCoverModel" "bestArrival" "[I" ∈ wsX9_best_ := by decide +kernel
theorem lk_X9_best__101 : Cond.fieldLink RX9 101 "CellCoverModel" "bestArea" "[I" ∈ wsX9_best_ := by decide +kernel
set_option maxHeartbeats 4000000 in
set_option maxRecDepth 100000 in
theorem w_X9_best__20 {p : Program} {l : Launch} {e : Env} {s : State} {m : MethodId} {args : Array Value} {below : List Frame} {meth : Method} {c : Code} {G : GT} {A : Nat → Prop} (F : CallFix p m c cX9_best_ 3 s args wsX9_best_ RX9) (hr : meth.sig.returnType = (some .int)) (hlk : meth.locks = false) (hK : va_K G.1 vwCl (tyl G) s) (out : Int32 × St) : ∀ (S : St) (H : Heap) (locs : List Loc) (ls : Array Slot), Wd shM idsM G A S H → va_S A s.heap H locs → lv_has ls 3 [] → j_X9_best__20 S = some out → W p l e rm_X9_best_ s m args below meth c H locs 0 0 (MQ below (QI shM idsM G A out) args s 0 0 A) (F0 m 20 ls []) := by
  intro S H locs ls hW hS hl h
  unfold j_X9_best__20 at h
  refine lv_iconst (v := -1) F.1 F.2.1 dX9_best__20 (by decide) ?_
  exact rw_ret F hr hlk hK hW hS h dX9_best__21
set_option maxHeartbeats 4000000 in
set_option maxRecDepth 100000 in
theorem w_X9_best__98 {p : Program} {l : Launch} {e : Env} {s : State} {m : MethodId} {args : Array Value} {below : List Frame} {meth : Method} {c : Code} {G : GT} {A : Nat → Prop} (F : CallFix p m c cX9_best_ 3 s args wsX9_best_ RX9) (hr : meth.sig.returnType = (some .int)) (hlk : meth.locks = false) (hK : va_K G.1 vwCl (tyl G) s) (out : Int32 × St) : ∀ (S : St) (y0 : Int32) (H : Heap) (locs : List Loc) (ls : Array Slot), Wd shM idsM G A S H → va_S A s.heap H locs → lv_has ls 3 [] → j_X9_best__98 S y0 = some out → W p l e rm_X9_best_ s m args below meth c H locs 0 0 (MQ below (QI shM idsM G A out) args s 0 0 A) (F0 m 98 ls [.int y0]) := by
  intro S y0 H locs ls hW hS hl h
  unfold j_X9_best__98 at h
  exact rw_ret F hr hlk hK hW hS h dX9_best__98
set_option maxHeartbeats 4000000 in
set_option maxRecDepth 100000 in
theorem c_X9_best_ (l : Launch) (G : GT) (A : Nat → Prop) (a0 : Int32) (a1 : Int32) (S : St) (out : Int32 × St) (h : f_X9_best_ a0 a1 S = some out) : Met l yX9_best_ wsX9_best_ rm_X9_best_ (va_Pc [.ref (G.2.2 0 0), .int a0, .int a1] (WD shM idsM G A S)) (QI shM idsM G A out) 0 0 A := by
  refine Met.ofW (cc := cX9_best_) (maxL := 3) (ret := (some .int)) (by decide) rfl ?_
  intro p e s m args below meth c s₁ B hml hv
  obtain ⟨rfl, hW, hK⟩ := hv
  have F : CallFix p m c cX9_best_ 3 s _ wsX9_best_ RX9 := ⟨B.exec, B.bytes, hml, findClass_of_methodNamed B.named, atoms_spec (ws := wsX9_best_) B.pre⟩
  have hr := B.returns
  have hlk := B.notSynchronized
  have hS : va_S A s.heap s.heap [] := va_S.rf
  have hl := lv_entry ([.ref (G.2.2 0 0), .int a0, .int a1]) (n := 3) (Nat.le_of_ble_eq_true rfl)
  rw [lg_entry_eq]
  generalize (lg_sl ([.ref (G.2.2 0 0), .int a0, .int a1]) ++ List.replicate (3 - (lg_sl ([.ref (G.2.2 0 0), .int a0, .int a1])).length) Slot.unset).toArray = ls at hl ⊢
  have hl : lv_has ls 3 [(0, .ref (G.2.2 0 0)), (1, .int a0), (2, .int a1)] := hl
  unfold f_X9_best_ at h
  refine lv_aload_n F.1 F.2.1 dX9_best__0 rfl (lv_at hl 0 rfl) ?_
  refine lv_iload_n F.1 F.2.1 dX9_best__1 rfl (lv_at hl 1 rfl) ?_
  obtain ⟨r_2, S_3, hq_1, h⟩ := bi_some h
  refine rw_vi F hK hW hS [.int a0] (rest := []) (c_X9_isVertex l G A a0 S (r_2, S_3) hq_1) (cwV 1 F.2.2.2.2 gX9_best__X9_isVertex rfl rfl rfl (by decide +kernel) ⟨Nat.le_of_ble_eq_true rfl, Nat.le_of_ble_eq_true rfl⟩) (rw_recv (q0 := 0) hK hW idM_0 rfl rfl) rfl hl.1 rfl (Nat.le_of_ble_eq_true rfl) dX9_best__2 (fun H locs hW hS => ?_)
  refine lv_if_eq (tgt := 20) F.1 F.2.1 dX9_best__5 (by decide) (fun c_4 => ?_) (fun c_4 => ?_)
  · have h := (if_pos c_4).symm.trans h
    exact w_X9_best__20 F hr hlk hK out  _ _ _ _  hW hS (lv_sub hl [] rfl) h
  · have h := (if_neg c_4).symm.trans h
    refine lv_iload_n F.1 F.2.1 dX9_best__8 rfl (lv_at hl 2 rfl) ?_
    refine lv_i2l (v := a1.toInt64) F.1 F.2.1 dX9_best__9 rfl ?_
    refine lv_lconst (v := 0) F.1 F.2.1 dX9_best__10 (by decide) ?_
    refine lv_ldc2 (v := 8) F.1 F.2.1 F.2.2.2.1 (F.2.2.2.2 _ lk_X9_best__189) dX9_best__11 ?_
    obtain ⟨r_6, S_7, hq_5, h⟩ := bi_some h
    refine rw_si F hK hW hS [.long a1.toInt64, .long 0, .long 8] (rest := []) (c_X9_in l G A a1.toInt64 0 8 S_3 (r_6, S_7) hq_5) (va_cwS 3 F.2.2.2.2 gX9_best__X9_in rfl rfl rfl (by decide +kernel) ⟨Nat.le_of_ble_eq_true rfl, Nat.le_of_ble_eq_true rfl⟩) rfl hl.1 rfl (Nat.le_of_ble_eq_true rfl) dX9_best__14 (fun H locs hW hS => ?_)
    refine lv_if_ne (tgt := 22) F.1 F.2.1 dX9_best__17 (by decide) (fun c_8 => ?_) (fun c_8 => ?_)
    · have h := (if_neg c_8).symm.trans h
      refine lv_aload_n F.1 F.2.1 dX9_best__22 rfl (lv_at hl 0 rfl) ?_
      refine rw_get (q0 := 0) F hK hW idM_0 rfl rfl in_X9_best__X9 10 (by decide) lk_X9_best__132 rfl dX9_best__23 ?_
      refine lv_if_ne (tgt := 32) F.1 F.2.1 dX9_best__26 (by decide) (fun c_9 => ?_) (fun c_9 => ?_)
      · have h := (if_neg c_9).symm.trans h
        refine lv_aload_n F.1 F.2.1 dX9_best__32 rfl (lv_at hl 0 rfl) ?_
        refine rw_get (q0 := 0) F hK hW idM_0 rfl rfl in_X9_best__X9 41 (by decide) lk_X9_best__98 rfl dX9_best__33 ?_
        refine lv_iload_n F.1 F.2.1 dX9_best__36 rfl (lv_at hl 1 rfl) ?_
        obtain ⟨b_10, h⟩ := gd_some h
        refine rw_zald (q0 := 30) F hK hW idM_30 (fun _ => rfl) (ix_in b_10) dX9_best__37 ?_
        refine lv_topi (fun v_11 ev_11 => ?_)
        have h := lt_n ev_11 h
        refine lv_if_ne (tgt := 44) F.1 F.2.1 dX9_best__38 (by decide) (fun c_12 => ?_) (fun c_12 => ?_)
        · have h := (if_neg c_12).symm.trans h
          refine lv_iload_n F.1 F.2.1 dX9_best__44 rfl (lv_at hl 2 rfl) ?_
          refine lv_if_ne (tgt := 57) F.1 F.2.1 dX9_best__45 (by decide) (fun c_13 => ?_) (fun c_13 => ?_)
          · have h := (if_neg c_13).symm.trans h
            refine lv_iload_n F.1 F.2.1 dX9_best__57 rfl (lv_at hl 2 rfl) ?_
            refine lv_iconst (v := 1) F.1 F.2.1 dX9_best__58 (by decide) ?_
            refine lv_icmp_ne (tgt := 71) F.1 F.2.1 dX9_best__59 (by decide) (fun c_14 => ?_) (fun c_14 => ?_)
            · have h := (if_neg c_14).symm.trans h
              refine lv_iload_n F.1 F.2.1 dX9_best__71 rfl (lv_at hl 2 rfl) ?_
              refine lv_iconst (v := 2) F.1 F.2.1 dX9_best__72 (by decide) ?_
              refine lv_icmp_ne (tgt := 85) F.1 F.2.1 dX9_best__73 (by decide) (fun c_15 => ?_) (fun c_15 => ?_)
              · have h := (if_neg c_15).symm.trans h
                refine lv_aload_n F.1 F.2.1 dX9_best__85 rfl (lv_at hl 0 rfl) ?_
                refine rw_get (q0 := 0) F hK hW idM_0 rfl rfl in_X9_best__X9 45 (by decide) lk_X9_best__110 rfl dX9_best__86 ?_
                refine lv_bipush (v := 6) F.1 F.2.1 dX9_best__89 (by decide) ?_
                refine lv_iload_n F.1 F.2.1 dX9_best__91 rfl (lv_at hl 1 rfl) ?_
                refine lv_imul F.1 F.2.1 dX9_best__92 ?_
                refine lv_iload_n F.1 F.2.1 dX9_best__93 rfl (lv_at hl 2 rfl) ?_
                refine lv_iadd F.1 F.2.1 dX9_best__94 ?_
                refine lv_iconst (v := 3) F.1 F.2.1 dX9_best__95 (by decide) ?_
                refine lv_isub F.1 F.2.1 dX9_best__96 ?_
                obtain ⟨b_16, h⟩ := gd_some h
                refine rw_iald (q0 := 34) F hK hW idM_34 (fun _ => rfl) (ix_in b_16) dX9_best__97 ?_
                refine lv_topi (fun v_17 ev_17 => ?_)
                have h := lt_n ev_17 h
                exact w_X9_best__98 F hr hlk hK out  _ _ _ _ _  hW hS (lv_sub hl [] rfl) h
              · have h := (if_pos c_15).symm.trans h
                refine lv_aload_n F.1 F.2.1 dX9_best__76 rfl (lv_at hl 0 rfl) ?_
                refine rw_get (q0 := 0) F hK hW idM_0 rfl rfl in_X9_best__X9 44 (by decide) lk_X9_best__107 rfl dX9_best__77 ?_
                refine lv_iload_n F.1 F.2.1 dX9_best__80 rfl (lv_at hl 1 rfl) ?_
                obtain ⟨b_18, h⟩ := gd_some h
                refine rw_iald (q0 := 33) F hK hW idM_33 (fun _ => rfl) (ix_in b_18) dX9_best__81 ?_
                refine lv_topi (fun v_19 ev_19 => ?_)
                have h := lt_n ev_19 h
                refine lv_goto (tgt := 98) F.1 F.2.1 dX9_best__82 (by decide) ?_
                exact w_X9_best__98 F hr hlk hK out  _ _ _ _ _  hW hS (lv_sub hl [] rfl) h
            · have h := (if_pos c_14).symm.trans h
              refine lv_aload_n F.1 F.2.1 dX9_best__62 rfl (lv_at hl 0 rfl) ?_
              refine rw_get (q0 := 0) F hK hW idM_0 rfl rfl in_X9_best__X9 43 (by decide) lk_X9_best__104 rfl dX9_best__63 ?_
              refine lv_iload_n F.1 F.2.1 dX9_best__66 rfl (lv_at hl 1 rfl) ?_
              obtain ⟨b_20, h⟩ := gd_some h
              refine rw_iald (q0 := 32) F hK hW idM_32 (fun _ => rfl) (ix_in b_20) dX9_best__67 ?_
              refine lv_topi (fun v_21 ev_21 => ?_)
              have h := lt_n ev_21 h
              refine lv_goto (tgt := 98) F.1 F.2.1 dX9_best__68 (by decide) ?_
              exact w_X9_best__98 F hr hlk hK out  _ _ _ _ _  hW hS (lv_sub hl [] rfl) h
          · have h := (if_pos c_13).symm.trans h
            refine lv_aload_n F.1 F.2.1 dX9_best__48 rfl (lv_at hl 0 rfl) ?_
            refine rw_get (q0 := 0) F hK hW idM_0 rfl rfl in_X9_best__X9 42 (by decide) lk_X9_best__101 rfl dX9_best__49 ?_
            refine lv_iload_n F.1 F.2.1 dX9_best__52 rfl (lv_at hl 1 rfl) ?_
            obtain ⟨b_22, h⟩ := gd_some h
            refine rw_iald (q0 := 31) F hK hW idM_31 (fun _ => rfl) (ix_in b_22) dX9_best__53 ?_
            refine lv_topi (fun v_23 ev_23 => ?_)
            have h := lt_n ev_23 h
            refine lv_goto (tgt := 98) F.1 F.2.1 dX9_best__54 (by decide) ?_
            exact w_X9_best__98 F hr hlk hK out  _ _ _ _ _  hW hS (lv_sub hl [] rfl) h
        · have h := (if_pos c_12).symm.trans h
          refine lv_bipush (v := -4) F.1 F.2.1 dX9_best__41 (by decide) ?_
          exact rw_ret F hr hlk hK hW hS h dX9_best__43
      · have h := (if_pos c_9).symm.trans h
        refine lv_bipush (v := -2) F.1 F.2.1 dX9_best__29 (by decide) ?_
        exact rw_ret F hr hlk hK hW hS h dX9_best__31
    · have h := (if_pos c_8).symm.trans h
      exact w_X9_best__20 F hr hlk hK out  _ _ _ _  hW hS (lv_sub hl [] rfl) h
/-! CellCoverModel.instance(II)I -/
abbrev rm_X9_instance : Room := { frames := 1, cells := 0, slots := 0, locals := 25 }
theorem in_X9_instance_X9 : ∀ w ∈ wsX90, w ∈ wsX9_instance := by decide +kernel
theorem lk_X9_instance_264 : Cond.constantLong RX9 264 7 ∈ wsX9_instance := by decide +kernel
theorem lk_X9_instance_132 : Cond.fieldLink RX9 132 "CellCoverModel" "hasCover" "Z" ∈ wsX9_instance := by decide +kernel
theorem lk_X9_instance_250 : Cond.fieldLink RX9 250 "CellCoverModel" "instances" "I" ∈ wsX9_instance := by decide +kernel
theorem lk_X9_instance_113 : Cond.fieldLink RX9 113 "CellCoverModel" "instanceOf" "[I" ∈ wsX9_instance := by decide +kernel
theorem lk_X9_instance_110 : Cond.fieldLink RX9 110 "CellCoverModel" "bestPins" "[I" ∈ wsX9_instance := by decide +kernel
theorem lk_X9_instance_107 : Cond.fieldLink RX9 107 "CellCoverModel" "bestCell" "[I" ∈ wsX9_instance := by decide +kernel
set_option maxHeartbeats 4000000 in
set_option maxRecDepth 100000 in
theorem w_X9_instance_85 {p : Program} {l : Launch} {e : Env} {s : State} {m : MethodId} {args : Array Value} {below : List Frame} {meth : Method} {c : Code} {G : GT} {A : Nat → Prop} (F : CallFix p m c cX9_instance 4 s args wsX9_instance RX9) (hr : meth.sig.returnType = (some .int)) (hlk : meth.locks = false) (hK : va_K G.1 vwCl (tyl G) s) (out : Int32 × St) : ∀ (S : St) (y0 : Int32) (H : Heap) (locs : List Loc) (ls : Array Slot), Wd shM idsM G A S H → va_S A s.heap H locs → lv_has ls 4 [] → j_X9_instance_85 S y0 = some out → W p l e rm_X9_instance s m args below meth c H locs 0 0 (MQ below (QI shM idsM G A out) args s 0 0 A) (F0 m 85 ls [.int y0]) := by
  intro S y0 H locs ls hW hS hl h
  unfold j_X9_instance_85 at h
  exact rw_ret F hr hlk hK hW hS h dX9_instance_85
set_option maxHeartbeats 4000000 in
set_option maxRecDepth 100000 in
theorem c_X9_instance (l : Launch) (G : GT) (A : Nat → Prop) (a0 : Int32) (a1 : Int32) (S : St) (out : Int32 × St) (h : f_X9_instance a0 a1 S = some out) : Met l yX9_instance wsX9_instance rm_X9_instance (va_Pc [.ref (G.2.2 0 0), .int a0, .int a1] (WD shM idsM G A S)) (QI shM idsM G A out) 0 0 A := by
  refine Met.ofW (cc := cX9_instance) (maxL := 4) (ret := (some .int)) (by decide) rfl ?_
  intro p e s m args below meth c s₁ B hml hv
  obtain ⟨rfl, hW, hK⟩ := hv
  have F : CallFix p m c cX9_instance 4 s _ wsX9_instance RX9 := ⟨B.exec, B.bytes, hml, findClass_of_methodNamed B.named, atoms_spec (ws := wsX9_instance) B.pre⟩
  have hr := B.returns
  have hlk := B.notSynchronized
  have hS : va_S A s.heap s.heap [] := va_S.rf
  have hl := lv_entry ([.ref (G.2.2 0 0), .int a0, .int a1]) (n := 4) (Nat.le_of_ble_eq_true rfl)
  rw [lg_entry_eq]
  generalize (lg_sl ([.ref (G.2.2 0 0), .int a0, .int a1]) ++ List.replicate (4 - (lg_sl ([.ref (G.2.2 0 0), .int a0, .int a1])).length) Slot.unset).toArray = ls at hl ⊢
  have hl : lv_has ls 4 [(0, .ref (G.2.2 0 0)), (1, .int a0), (2, .int a1)] := hl
  unfold f_X9_instance at h
  refine lv_iload_n F.1 F.2.1 dX9_instance_0 rfl (lv_at hl 2 rfl) ?_
  refine lv_i2l (v := a1.toInt64) F.1 F.2.1 dX9_instance_1 rfl ?_
  refine lv_lconst (v := 0) F.1 F.2.1 dX9_instance_2 (by decide) ?_
  refine lv_ldc2 (v := 7) F.1 F.2.1 F.2.2.2.1 (F.2.2.2.2 _ lk_X9_instance_264) dX9_instance_3 ?_
  obtain ⟨r_2, S_3, hq_1, h⟩ := bi_some h
  refine rw_si F hK hW hS [.long a1.toInt64, .long 0, .long 7] (rest := []) (c_X9_in l G A a1.toInt64 0 7 S (r_2, S_3) hq_1) (va_cwS 3 F.2.2.2.2 gX9_instance_X9_in rfl rfl rfl (by decide +kernel) ⟨Nat.le_of_ble_eq_true rfl, Nat.le_of_ble_eq_true rfl⟩) rfl hl.1 rfl (Nat.le_of_ble_eq_true rfl) dX9_instance_6 (fun H locs hW hS => ?_)
  refine lv_if_ne (tgt := 14) F.1 F.2.1 dX9_instance_9 (by decide) (fun c_4 => ?_) (fun c_4 => ?_)
  · have h := (if_neg c_4).symm.trans h
    refine lv_aload_n F.1 F.2.1 dX9_instance_14 rfl (lv_at hl 0 rfl) ?_
    refine rw_get (q0 := 0) F hK hW idM_0 rfl rfl in_X9_instance_X9 10 (by decide) lk_X9_instance_132 rfl dX9_instance_15 ?_
    refine lv_if_ne (tgt := 24) F.1 F.2.1 dX9_instance_18 (by decide) (fun c_5 => ?_) (fun c_5 => ?_)
    · have h := (if_neg c_5).symm.trans h
      refine lv_iload_n F.1 F.2.1 dX9_instance_24 rfl (lv_at hl 1 rfl) ?_
      refine lv_i2l (v := a0.toInt64) F.1 F.2.1 dX9_instance_25 rfl ?_
      refine lv_lconst (v := 0) F.1 F.2.1 dX9_instance_26 (by decide) ?_
      refine lv_aload_n F.1 F.2.1 dX9_instance_27 rfl (lv_at hl 0 rfl) ?_
      refine rw_get (q0 := 0) F hK hW idM_0 rfl rfl in_X9_instance_X9 46 (by decide) lk_X9_instance_250 rfl dX9_instance_28 ?_
      refine lv_iconst (v := 1) F.1 F.2.1 dX9_instance_31 (by decide) ?_
      refine lv_isub F.1 F.2.1 dX9_instance_32 ?_
      refine lv_i2l (v := ((S_3 0 0 46) - 1).toInt64) F.1 F.2.1 dX9_instance_33 rfl ?_
      obtain ⟨r_7, S_8, hq_6, h⟩ := bi_some h
      refine rw_si F hK hW hS [.long a0.toInt64, .long 0, .long (((S_3 0 0 46) - 1).toInt64)] (rest := []) (c_X9_in l G A a0.toInt64 0 (((S_3 0 0 46) - 1).toInt64) S_3 (r_7, S_8) hq_6) (va_cwS 3 F.2.2.2.2 gX9_instance_X9_in rfl rfl rfl (by decide +kernel) ⟨Nat.le_of_ble_eq_true rfl, Nat.le_of_ble_eq_true rfl⟩) rfl hl.1 rfl (Nat.le_of_ble_eq_true rfl) dX9_instance_34 (fun H locs hW hS => ?_)
      refine lv_if_ne (tgt := 43) F.1 F.2.1 dX9_instance_37 (by decide) (fun c_9 => ?_) (fun c_9 => ?_)
      · have h := (if_neg c_9).symm.trans h
        refine lv_aload_n F.1 F.2.1 dX9_instance_43 rfl (lv_at hl 0 rfl) ?_
        refine rw_get (q0 := 0) F hK hW idM_0 rfl rfl in_X9_instance_X9 47 (by decide) lk_X9_instance_113 rfl dX9_instance_44 ?_
        refine lv_iload_n F.1 F.2.1 dX9_instance_47 rfl (lv_at hl 1 rfl) ?_
        obtain ⟨b_10, h⟩ := gd_some h
        refine rw_iald (q0 := 35) F hK hW idM_35 (fun _ => rfl) (ix_in b_10) dX9_instance_48 ?_
        refine lv_topi (fun v_11 ev_11 => ?_)
        have h := lt_n ev_11 h
        refine lv_istore_n (lv' := [(3, .int v_11), (0, .ref (G.2.2 0 0)), (1, .int a0), (2, .int a1)]) F.1 F.2.1 dX9_instance_49 rfl hl (by decide) rfl (fun ls hl => ?_)
        refine lv_iload_n F.1 F.2.1 dX9_instance_50 rfl (lv_at hl 3 rfl) ?_
        refine lv_if_ne (tgt := 63) F.1 F.2.1 dX9_instance_51 (by decide) (fun c_12 => ?_) (fun c_12 => ?_)
        · have h := (if_neg c_12).symm.trans h
          refine lv_iload_n F.1 F.2.1 dX9_instance_63 rfl (lv_at hl 3 rfl) ?_
          refine lv_iconst (v := 1) F.1 F.2.1 dX9_instance_64 (by decide) ?_
          refine lv_icmp_ne (tgt := 72) F.1 F.2.1 dX9_instance_65 (by decide) (fun c_13 => ?_) (fun c_13 => ?_)
          · have h := (if_neg c_13).symm.trans h
            refine lv_aload_n F.1 F.2.1 dX9_instance_72 rfl (lv_at hl 1 rfl) ?_
            refine rw_get (q0 := 0) F hK hW idM_0 rfl rfl in_X9_instance_X9 45 (by decide) lk_X9_instance_110 rfl dX9_instance_73 ?_
            refine lv_bipush (v := 6) F.1 F.2.1 dX9_instance_76 (by decide) ?_
            refine lv_iload_n F.1 F.2.1 dX9_instance_78 rfl (lv_at hl 0 rfl) ?_
            refine lv_imul F.1 F.2.1 dX9_instance_79 ?_
            refine lv_iload_n F.1 F.2.1 dX9_instance_80 rfl (lv_at hl 3 rfl) ?_
            refine lv_iadd F.1 F.2.1 dX9_instance_81 ?_
            refine lv_iconst (v := 2) F.1 F.2.1 dX9_instance_82 (by decide) ?_
            refine lv_isub F.1 F.2.1 dX9_instance_83 ?_
            obtain ⟨b_14, h⟩ := gd_some h
            refine rw_iald (q0 := 34) F hK hW idM_34 (fun _ => rfl) (ix_in b_14) dX9_instance_84 ?_
            refine lv_topi (fun v_15 ev_15 => ?_)
            have h := lt_n ev_15 h
            exact w_X9_instance_85 F hr hlk hK out  _ _ _ _ _  hW hS (lv_sub hl [] rfl) h
          · have h := (if_pos c_13).symm.trans h
            refine lv_iload_n F.1 F.2.1 dX9_instance_68 rfl (lv_at hl 0 rfl) ?_
            refine lv_goto (tgt := 85) F.1 F.2.1 dX9_instance_69 (by decide) ?_
            exact w_X9_instance_85 F hr hlk hK out  _ _ _ _ _  hW hS (lv_sub hl [] rfl) h
        · have h := (if_pos c_12).symm.trans h
          refine lv_aload_n F.1 F.2.1 dX9_instance_54 rfl (lv_at hl 1 rfl) ?_
          refine rw_get (q0 := 0) F hK hW idM_0 rfl rfl in_X9_instance_X9 44 (by decide) lk_X9_instance_107 rfl dX9_instance_55 ?_
          refine lv_iload_n F.1 F.2.1 dX9_instance_58 rfl (lv_at hl 0 rfl) ?_
          obtain ⟨b_16, h⟩ := gd_some h
          refine rw_iald (q0 := 33) F hK hW idM_33 (fun _ => rfl) (ix_in b_16) dX9_instance_59 ?_
          refine lv_topi (fun v_17 ev_17 => ?_)
          have h := lt_n ev_17 h
          refine lv_goto (tgt := 85) F.1 F.2.1 dX9_instance_60 (by decide) ?_
          exact w_X9_instance_85 F hr hlk hK out  _ _ _ _ _  hW hS (lv_sub hl [] rfl) h
      · have h := (if_pos c_9).symm.trans h
        refine lv_bipush (v := -4) F.1 F.2.1 dX9_instance_40 (by decide) ?_
        exact rw_ret F hr hlk hK hW hS h dX9_instance_42
    · have h := (if_pos c_5).symm.trans h
      refine lv_bipush (v := -2) F.1 F.2.1 dX9_instance_21 (by decide) ?_
      exact rw_ret F hr hlk hK hW hS h dX9_instance_23
  · have h := (if_pos c_4).symm.trans h
    refine lv_iconst (v := -1) F.1 F.2.1 dX9_instance_12 (by decide) ?_
    exact rw_ret F hr hlk hK hW hS h dX9_instance_13
/-! CellCoverModel.area()I -/
abbrev rm_X9_area : Room := { frames := 0, cells := 0, slots := 0, locals := 0 }
theorem in_X9_area_X9 : ∀ w ∈ wsX90, w ∈ wsX9_area := by decide +kernel
theorem lk_X9_area_132 : Cond.fieldLink RX9 132 "CellCoverModel" "hasCover" "Z" ∈ wsX9_area := by decide +kernel
theorem lk_X9_area_261 : Cond.fieldLink RX9 261 "CellCoverModel" "coverArea" "I" ∈ wsX9_area := by decide +kernel
set_option maxHeartbeats 4000000 in
set_option maxRecDepth 100000 in
theorem w_X9_area_16 {p : Program} {l : Launch} {e : Env} {s : State} {m : MethodId} {args : Array Value} {below : List Frame} {meth : Method} {c : Code} {G : GT} {A : Nat → Prop} (F : CallFix p m c cX9_area 1 s args wsX9_area RX9) (hr : meth.sig.returnType = (some .int)) (hlk : meth.locks = false) (hK : va_K G.1 vwCl (tyl G) s) (out : Int32 × St) : ∀ (S : St) (y0 : Int32) (H : Heap) (locs : List Loc) (ls : Array Slot), Wd shM idsM G A S H → va_S A s.heap H locs → lv_has ls 1 [] → j_X9_area_16 S y0 = some out → W p l e rm_X9_area s m args below meth c H locs 0 0 (MQ below (QI shM idsM G A out) args s 0 0 A) (F0 m 16 ls [.int y0]) := by
  intro S y0 H locs ls hW hS hl h
  unfold j_X9_area_16 at h
  exact rw_ret F hr hlk hK hW hS h dX9_area_16
set_option maxHeartbeats 4000000 in
set_option maxRecDepth 100000 in
theorem c_X9_area (l : Launch) (G : GT) (A : Nat → Prop) (S : St) (out : Int32 × St) (h : f_X9_area S = some out) : Met l yX9_area wsX9_area rm_X9_area (va_Pc [.ref (G.2.2 0 0)] (WD shM idsM G A S)) (QI shM idsM G A out) 0 0 A := by
  refine Met.ofW (cc := cX9_area) (maxL := 1) (ret := (some .int)) (by decide) rfl ?_
  intro p e s m args below meth c s₁ B hml hv
  obtain ⟨rfl, hW, hK⟩ := hv
  have F : CallFix p m c cX9_area 1 s _ wsX9_area RX9 := ⟨B.exec, B.bytes, hml, findClass_of_methodNamed B.named, atoms_spec (ws := wsX9_area) B.pre⟩
  have hr := B.returns
  have hlk := B.notSynchronized
  have hS : va_S A s.heap s.heap [] := va_S.rf
  have hl := lv_entry ([.ref (G.2.2 0 0)]) (n := 1) (Nat.le_of_ble_eq_true rfl)
  rw [lg_entry_eq]
  generalize (lg_sl ([.ref (G.2.2 0 0)]) ++ List.replicate (1 - (lg_sl ([.ref (G.2.2 0 0)])).length) Slot.unset).toArray = ls at hl ⊢
  have hl : lv_has ls 1 [(0, .ref (G.2.2 0 0))] := hl
  unfold f_X9_area at h
  refine lv_aload_n F.1 F.2.1 dX9_area_0 rfl (lv_at hl 0 rfl) ?_
  refine rw_get (q0 := 0) F hK hW idM_0 rfl rfl in_X9_area_X9 10 (by decide) lk_X9_area_132 rfl dX9_area_1 ?_
  refine lv_if_eq (tgt := 14) F.1 F.2.1 dX9_area_4 (by decide) (fun c_1 => ?_) (fun c_1 => ?_)
  · have h := (if_pos c_1).symm.trans h
    refine lv_bipush (v := -2) F.1 F.2.1 dX9_area_14 (by decide) ?_
    exact w_X9_area_16 F hr hlk hK out  _ _ _ _ _  hW hS (lv_sub hl [] rfl) h
  · have h := (if_neg c_1).symm.trans h
    refine lv_aload_n F.1 F.2.1 dX9_area_7 rfl (lv_at hl 0 rfl) ?_
    refine rw_get (q0 := 0) F hK hW idM_0 rfl rfl in_X9_area_X9 50 (by decide) lk_X9_area_261 rfl dX9_area_8 ?_
    refine lv_goto (tgt := 16) F.1 F.2.1 dX9_area_11 (by decide) ?_
    exact w_X9_area_16 F hr hlk hK out  _ _ _ _ _  hW hS (lv_sub hl [] rfl) h
/-! CellCoverModel.arrival(I)I -/
abbrev rm_X9_arrival : Room := { frames := 1, cells := 0, slots := 0, locals := 25 }
theorem in_X9_arrival_X9 : ∀ w ∈ wsX90, w ∈ wsX9_arrival := by decide +kernel
theorem lk_X9_arrival_160 : Cond.fieldLink RX9 160 "CellCoverModel" "outputs" "I" ∈ wsX9_arrival := by decide +kernel
theorem lk_X9_arrival_132 : Cond.fieldLink RX9 132 "CellCoverModel" "hasCover" "Z" ∈ wsX9_arrival := by decide +kernel
theorem lk_X9_arrival_104 : Cond.fieldLink RX9 104 "CellCoverModel" "bestArrival" "[I" ∈ wsX9_arrival := by decide +kernel
theorem lk_X9_arrival_40 : Cond.fieldLink RX9 40 "CellCoverModel" "vertexOf" "[I" ∈ wsX9_arrival := by decide +kernel
theorem lk_X9_arrival_22 : Cond.fieldLink RX9 22 "CellCoverModel" "outputOf" "[I" ∈ wsX9_arrival := by decide +kernel
set_option maxHeartbeats 4000000 in
set_option maxRecDepth 100000 in
theorem w_X9_arrival_48 {p : Program} {l : Launch} {e : Env} {s : State} {m : MethodId} {args : Array Value} {below : List Frame} {meth : Method} {c : Code} {G : GT} {A : Nat → Prop} (F : CallFix p m c cX9_arrival 2 s args wsX9_arrival RX9) (hr : meth.sig.returnType = (some .int)) (hlk : meth.locks = false) (hK : va_K G.1 vwCl (tyl G) s) (out : Int32 × St) : ∀ (S : St) (y0 : Int32) (H : Heap) (locs : List Loc) (ls : Array Slot), Wd shM idsM G A S H → va_S A s.heap H locs → lv_has ls 2 [] → j_X9_arrival_48 S y0 = some out → W p l e rm_X9_arrival s m args below meth c H locs 0 0 (MQ below (QI shM idsM G A out) args s 0 0 A) (F0 m 48 ls [.int y0]) := by
  intro S y0 H locs ls hW hS hl h
  unfold j_X9_arrival_48 at h
  exact rw_ret F hr hlk hK hW hS h dX9_arrival_48
set_option maxHeartbeats 4000000 in
set_option maxRecDepth 100000 in
theorem c_X9_arrival (l : Launch) (G : GT) (A : Nat → Prop) (a0 : Int32) (S : St) (out : Int32 × St) (h : f_X9_arrival a0 S = some out) : Met l yX9_arrival wsX9_arrival rm_X9_arrival (va_Pc [.ref (G.2.2 0 0), .int a0] (WD shM idsM G A S)) (QI shM idsM G A out) 0 0 A := by
  refine Met.ofW (cc := cX9_arrival) (maxL := 2) (ret := (some .int)) (by decide) rfl ?_
  intro p e s m args below meth c s₁ B hml hv
  obtain ⟨rfl, hW, hK⟩ := hv
  have F : CallFix p m c cX9_arrival 2 s _ wsX9_arrival RX9 := ⟨B.exec, B.bytes, hml, findClass_of_methodNamed B.named, atoms_spec (ws := wsX9_arrival) B.pre⟩
  have hr := B.returns
  have hlk := B.notSynchronized
  have hS : va_S A s.heap s.heap [] := va_S.rf
  have hl := lv_entry ([.ref (G.2.2 0 0), .int a0]) (n := 2) (Nat.le_of_ble_eq_true rfl)
  rw [lg_entry_eq]
  generalize (lg_sl ([.ref (G.2.2 0 0), .int a0]) ++ List.replicate (2 - (lg_sl ([.ref (G.2.2 0 0), .int a0])).length) Slot.unset).toArray = ls at hl ⊢
  have hl : lv_has ls 2 [(0, .ref (G.2.2 0 0)), (1, .int a0)] := hl
  unfold f_X9_arrival at h
  refine lv_iload_n F.1 F.2.1 dX9_arrival_0 rfl (lv_at hl 1 rfl) ?_
  refine lv_i2l (v := a0.toInt64) F.1 F.2.1 dX9_arrival_1 rfl ?_
  refine lv_lconst (v := 0) F.1 F.2.1 dX9_arrival_2 (by decide) ?_
  refine lv_aload_n F.1 F.2.1 dX9_arrival_3 rfl (lv_at hl 0 rfl) ?_
  refine rw_get (q0 := 0) F hK hW idM_0 rfl rfl in_X9_arrival_X9 5 (by decide) lk_X9_arrival_160 rfl dX9_arrival_4 ?_
  refine lv_iconst (v := 1) F.1 F.2.1 dX9_arrival_7 (by decide) ?_
  refine lv_isub F.1 F.2.1 dX9_arrival_8 ?_
  refine lv_i2l (v := ((S 0 0 5) - 1).toInt64) F.1 F.2.1 dX9_arrival_9 rfl ?_
  obtain ⟨r_2, S_3, hq_1, h⟩ := bi_some h
  refine rw_si F hK hW hS [.long a0.toInt64, .long 0, .long (((S 0 0 5) - 1).toInt64)] (rest := []) (c_X9_in l G A a0.toInt64 0 (((S 0 0 5) - 1).toInt64) S (r_2, S_3) hq_1) (va_cwS 3 F.2.2.2.2 gX9_arrival_X9_in rfl rfl rfl (by decide +kernel) ⟨Nat.le_of_ble_eq_true rfl, Nat.le_of_ble_eq_true rfl⟩) rfl hl.1 rfl (Nat.le_of_ble_eq_true rfl) dX9_arrival_10 (fun H locs hW hS => ?_)
  refine lv_if_ne (tgt := 20) F.1 F.2.1 dX9_arrival_13 (by decide) (fun c_4 => ?_) (fun c_4 => ?_)
  · have h := (if_neg c_4).symm.trans h
    refine lv_aload_n F.1 F.2.1 dX9_arrival_20 rfl (lv_at hl 0 rfl) ?_
    refine rw_get (q0 := 0) F hK hW idM_0 rfl rfl in_X9_arrival_X9 10 (by decide) lk_X9_arrival_132 rfl dX9_arrival_21 ?_
    refine lv_if_eq (tgt := 46) F.1 F.2.1 dX9_arrival_24 (by decide) (fun c_5 => ?_) (fun c_5 => ?_)
    · have h := (if_pos c_5).symm.trans h
      refine lv_bipush (v := -2) F.1 F.2.1 dX9_arrival_46 (by decide) ?_
      exact w_X9_arrival_48 F hr hlk hK out  _ _ _ _ _  hW hS (lv_sub hl [] rfl) h
    · have h := (if_neg c_5).symm.trans h
      refine lv_aload_n F.1 F.2.1 dX9_arrival_27 rfl (lv_at hl 0 rfl) ?_
      refine rw_get (q0 := 0) F hK hW idM_0 rfl rfl in_X9_arrival_X9 43 (by decide) lk_X9_arrival_104 rfl dX9_arrival_28 ?_
      refine lv_aload_n F.1 F.2.1 dX9_arrival_31 rfl (lv_at hl 0 rfl) ?_
      refine rw_get (q0 := 0) F hK hW idM_0 rfl rfl in_X9_arrival_X9 15 (by decide) lk_X9_arrival_40 rfl dX9_arrival_32 ?_
      refine lv_aload_n F.1 F.2.1 dX9_arrival_35 rfl (lv_at hl 0 rfl) ?_
      refine rw_get (q0 := 0) F hK hW idM_0 rfl rfl in_X9_arrival_X9 6 (by decide) lk_X9_arrival_22 rfl dX9_arrival_36 ?_
      refine lv_iload_n F.1 F.2.1 dX9_arrival_39 rfl (lv_at hl 1 rfl) ?_
      obtain ⟨b_6, h⟩ := gd_some h
      refine rw_iald (q0 := 5) F hK hW idM_5 (fun _ => rfl) (ix_in b_6) dX9_arrival_40 ?_
      refine lv_topi (fun v_7 ev_7 => ?_)
      have h := lt_n ev_7 h
      obtain ⟨b_8, h⟩ := gd_some h
      refine rw_iald (q0 := 11) F hK hW idM_11 (fun _ => rfl) (ix_in b_8) dX9_arrival_41 ?_
      refine lv_topi (fun v_9 ev_9 => ?_)
      have h := lt_n ev_9 h
      obtain ⟨b_10, h⟩ := gd_some h
      refine rw_iald (q0 := 32) F hK hW idM_32 (fun _ => rfl) (ix_in b_10) dX9_arrival_42 ?_
      refine lv_topi (fun v_11 ev_11 => ?_)
      have h := lt_n ev_11 h
      refine lv_goto (tgt := 48) F.1 F.2.1 dX9_arrival_43 (by decide) ?_
      exact w_X9_arrival_48 F hr hlk hK out  _ _ _ _ _  hW hS (lv_sub hl [] rfl) h
  · have h := (if_pos c_4).symm.trans h
    refine lv_iconst (v := -1) F.1 F.2.1 dX9_arrival_16 (by decide) ?_
    refine lv_goto (tgt := 48) F.1 F.2.1 dX9_arrival_17 (by decide) ?_
    exact w_X9_arrival_48 F hr hlk hK out  _ _ _ _ _  hW hS (lv_sub hl [] rfl) h
/-! CellCoverModel.worth(I)I -/
abbrev rm_X9_worth : Room := { frames := 3, cells := 0, slots := 0, locals := 89 }
theorem in_X9_worth_X9 : ∀ w ∈ wsX90, w ∈ wsX9_worth := by decide +kernel
theorem lk_X9_worth_132 : Cond.fieldLink RX9 132 "CellCoverModel" "hasCover" "Z" ∈ wsX9_worth := by decide +kernel
theorem lk_X9_worth_256 : Cond.fieldLink RX9 256 "CellCoverModel" "coverHow" "I" ∈ wsX9_worth := by decide +kernel
set_option maxHeartbeats 4000000 in
set_option maxRecDepth 100000 in
theorem c_X9_worth (l : Launch) (G : GT) (A : Nat → Prop) (a0 : Int32) (S : St) (out : Int32 × St) (h : f_X9_worth a0 S = some out) : Met l yX9_worth wsX9_worth rm_X9_worth (va_Pc [.ref (G.2.2 0 0), .int a0] (WD shM idsM G A S)) (QI shM idsM G A out) 0 0 A := by
  refine Met.ofW (cc := cX9_worth) (maxL := 4) (ret := (some .int)) (by decide) rfl ?_
  intro p e s m args below meth c s₁ B hml hv
  obtain ⟨rfl, hW, hK⟩ := hv
  have F : CallFix p m c cX9_worth 4 s _ wsX9_worth RX9 := ⟨B.exec, B.bytes, hml, findClass_of_methodNamed B.named, atoms_spec (ws := wsX9_worth) B.pre⟩
  have hr := B.returns
  have hlk := B.notSynchronized
  have hS : va_S A s.heap s.heap [] := va_S.rf
  have hl := lv_entry ([.ref (G.2.2 0 0), .int a0]) (n := 4) (Nat.le_of_ble_eq_true rfl)
  rw [lg_entry_eq]
  generalize (lg_sl ([.ref (G.2.2 0 0), .int a0]) ++ List.replicate (4 - (lg_sl ([.ref (G.2.2 0 0), .int a0])).length) Slot.unset).toArray = ls at hl ⊢
  have hl : lv_has ls 4 [(0, .ref (G.2.2 0 0)), (1, .int a0)] := hl
  unfold f_X9_worth at h
  refine lv_aload_n F.1 F.2.1 dX9_worth_0 rfl (lv_at hl 0 rfl) ?_
  refine lv_iload_n F.1 F.2.1 dX9_worth_1 rfl (lv_at hl 1 rfl) ?_
  obtain ⟨r_2, S_3, hq_1, h⟩ := bi_some h
  refine rw_vi F hK hW hS [.int a0] (rest := []) (c_X9_isCell l G A a0 S (r_2, S_3) hq_1) (cwV 1 F.2.2.2.2 gX9_worth_X9_isCell rfl rfl rfl (by decide +kernel) ⟨Nat.le_of_ble_eq_true rfl, Nat.le_of_ble_eq_true rfl⟩) (rw_recv (q0 := 0) hK hW idM_0 rfl rfl) rfl hl.1 rfl (Nat.le_of_ble_eq_true rfl) dX9_worth_2 (fun H locs hW hS => ?_)
  refine lv_if_ne (tgt := 10) F.1 F.2.1 dX9_worth_5 (by decide) (fun c_4 => ?_) (fun c_4 => ?_)
  · have h := (if_neg c_4).symm.trans h
    refine lv_aload_n F.1 F.2.1 dX9_worth_10 rfl (lv_at hl 0 rfl) ?_
    refine rw_get (q0 := 0) F hK hW idM_0 rfl rfl in_X9_worth_X9 10 (by decide) lk_X9_worth_132 rfl dX9_worth_11 ?_
    refine lv_if_ne (tgt := 20) F.1 F.2.1 dX9_worth_14 (by decide) (fun c_5 => ?_) (fun c_5 => ?_)
    · have h := (if_neg c_5).symm.trans h
      refine lv_aload_n F.1 F.2.1 dX9_worth_20 rfl (lv_at hl 0 rfl) ?_
      refine lv_iconst (v := 1) F.1 F.2.1 dX9_worth_21 (by decide) ?_
      refine lv_aload_n F.1 F.2.1 dX9_worth_22 rfl (lv_at hl 0 rfl) ?_
      refine rw_get (q0 := 0) F hK hW idM_0 rfl rfl in_X9_worth_X9 40 (by decide) lk_X9_worth_256 rfl dX9_worth_23 ?_
      refine lv_iload_n F.1 F.2.1 dX9_worth_26 rfl (lv_at hl 1 rfl) ?_
      obtain ⟨r_7, S_8, hq_6, h⟩ := bi_some h
      refine rw_vi F hK hW hS [.int 1, .int (S_3 0 0 40), .int a0] (rest := []) (c_X9_best l G A 1 (S_3 0 0 40) a0 S_3 (r_7, S_8) hq_6) (cwV 3 F.2.2.2.2 gX9_worth_X9_best rfl rfl rfl (by decide +kernel) ⟨Nat.le_of_ble_eq_true rfl, Nat.le_of_ble_eq_true rfl⟩) (rw_recv (q0 := 0) hK hW idM_0 rfl rfl) rfl hl.1 rfl (Nat.le_of_ble_eq_true rfl) dX9_worth_27 (fun H locs hW hS => ?_)
      refine lv_bipush (v := -4) F.1 F.2.1 dX9_worth_30 (by decide) ?_
      refine lv_icmp_eq (tgt := 38) F.1 F.2.1 dX9_worth_32 (by decide) (fun c_9 => ?_) (fun c_9 => ?_)
      · have h := (if_pos c_9).symm.trans h
        refine lv_aload_n F.1 F.2.1 dX9_worth_38 rfl (lv_at hl 0 rfl) ?_
        refine lv_iconst (v := 1) F.1 F.2.1 dX9_worth_39 (by decide) ?_
        obtain ⟨r_11, S_12, hq_10, h⟩ := bi_some h
        refine rw_vi F hK hW hS [.int 1] (rest := []) (c_X9_instances l G A 1 S_8 (r_11, S_12) hq_10) (cwV 1 F.2.2.2.2 gX9_worth_X9_instances rfl rfl rfl (by decide +kernel) ⟨Nat.le_of_ble_eq_true rfl, Nat.le_of_ble_eq_true rfl⟩) (rw_recv (q0 := 0) hK hW idM_0 rfl rfl) rfl hl.1 rfl (Nat.le_of_ble_eq_true rfl) dX9_worth_40 (fun H locs hW hS => ?_)
        refine lv_istore_n (lv' := [(2, .int r_11), (0, .ref (G.2.2 0 0)), (1, .int a0)]) F.1 F.2.1 dX9_worth_43 rfl hl (by decide) rfl (fun ls hl => ?_)
        refine lv_aload_n F.1 F.2.1 dX9_worth_44 rfl (lv_at hl 1 rfl) ?_
        refine lv_iconst (v := 0) F.1 F.2.1 dX9_worth_45 (by decide) ?_
        obtain ⟨r_14, S_15, hq_13, h⟩ := bi_some h
        refine rw_vi F hK hW hS [.int 0] (rest := []) (c_X9_instances l G A 0 S_12 (r_14, S_15) hq_13) (cwV 1 F.2.2.2.2 gX9_worth_X9_instances rfl rfl rfl (by decide +kernel) ⟨Nat.le_of_ble_eq_true rfl, Nat.le_of_ble_eq_true rfl⟩) (rw_recv (q0 := 0) hK hW idM_0 rfl rfl) rfl hl.1 rfl (Nat.le_of_ble_eq_true rfl) dX9_worth_46 (fun H locs hW hS => ?_)
        refine lv_istore_n (lv' := [(3, .int r_14), (2, .int r_11), (0, .ref (G.2.2 0 0)), (1, .int a0)]) F.1 F.2.1 dX9_worth_49 rfl hl (by decide) rfl (fun ls hl => ?_)
        refine lv_iload_n F.1 F.2.1 dX9_worth_50 rfl (lv_at hl 1 rfl) ?_
        refine lv_iload_n F.1 F.2.1 dX9_worth_51 rfl (lv_at hl 0 rfl) ?_
        refine lv_isub F.1 F.2.1 dX9_worth_52 ?_
        exact rw_ret F hr hlk hK hW hS h dX9_worth_53
      · have h := (if_neg c_9).symm.trans h
        refine lv_bipush (v := -4) F.1 F.2.1 dX9_worth_35 (by decide) ?_
        exact rw_ret F hr hlk hK hW hS h dX9_worth_37
    · have h := (if_pos c_5).symm.trans h
      refine lv_bipush (v := -2) F.1 F.2.1 dX9_worth_17 (by decide) ?_
      exact rw_ret F hr hlk hK hW hS h dX9_worth_19
  · have h := (if_pos c_4).symm.trans h
    refine lv_iconst (v := -1) F.1 F.2.1 dX9_worth_8 (by decide) ?_
    exact rw_ret F hr hlk hK hW hS h dX9_worth_9
/-! CellCoverModel.gateGives(IIII)I -/
abbrev rm_X9_gateGives : Room := { frames := 0, cells := 0, slots := 0, locals := 0 }
set_option maxHeartbeats 4000000 in
set_option maxRecDepth 100000 in
theorem w_X9_gateGives_78 {p : Program} {l : Launch} {e : Env} {s : State} {m : MethodId} {args : Array Value} {below : List Frame} {meth : Method} {c : Code} {G : GT} {A : Nat → Prop} (F : CallFix p m c cX9_gateGives 4 s args wsX9_gateGives RX9) (hr : meth.sig.returnType = (some .int)) (hlk : meth.locks = false) (hK : va_K G.1 vwCl (tyl G) s) (out : Int32 × St) : ∀ (S : St) (y0 : Int32) (H : Heap) (locs : List Loc) (ls : Array Slot), Wd shM idsM G A S H → va_S A s.heap H locs → lv_has ls 4 [] → j_X9_gateGives_78 S y0 = some out → W p l e rm_X9_gateGives s m args below meth c H locs 0 0 (MQ below (QI shM idsM G A out) args s 0 0 A) (F0 m 78 ls [.int y0]) := by
  intro S y0 H locs ls hW hS hl h
  unfold j_X9_gateGives_78 at h
  exact rw_ret F hr hlk hK hW hS h dX9_gateGives_78
set_option maxHeartbeats 4000000 in
set_option maxRecDepth 100000 in
theorem c_X9_gateGives (l : Launch) (G : GT) (A : Nat → Prop) (a0 : Int32) (a1 : Int32) (a2 : Int32) (a3 : Int32) (S : St) (out : Int32 × St) (h : f_X9_gateGives a0 a1 a2 a3 S = some out) : Met l yX9_gateGives wsX9_gateGives rm_X9_gateGives (va_Pc [.int a0, .int a1, .int a2, .int a3] (WD shM idsM G A S)) (QI shM idsM G A out) 0 0 A := by
  refine Met.ofW (cc := cX9_gateGives) (maxL := 4) (ret := (some .int)) (by decide) rfl ?_
  intro p e s m args below meth c s₁ B hml hv
  obtain ⟨rfl, hW, hK⟩ := hv
  have F : CallFix p m c cX9_gateGives 4 s _ wsX9_gateGives RX9 := ⟨B.exec, B.bytes, hml, findClass_of_methodNamed B.named, atoms_spec (ws := wsX9_gateGives) B.pre⟩
  have hr := B.returns
  have hlk := B.notSynchronized
  have hS : va_S A s.heap s.heap [] := va_S.rf
  have hl := lv_entry ([.int a0, .int a1, .int a2, .int a3]) (n := 4) (Nat.le_of_ble_eq_true rfl)
  rw [lg_entry_eq]
  generalize (lg_sl ([.int a0, .int a1, .int a2, .int a3]) ++ List.replicate (4 - (lg_sl ([.int a0, .int a1, .int a2, .int a3])).length) Slot.unset).toArray = ls at hl ⊢
  have hl : lv_has ls 4 [(0, .int a0), (1, .int a1), (2, .int a2), (3, .int a3)] := hl
  unfold f_X9_gateGives at h
  refine lv_iload_n F.1 F.2.1 dX9_gateGives_0 rfl (lv_at hl 0 rfl) ?_
  by_cases c_1 : a0 = 0
  · have h := (if_pos c_1).symm.trans h
    refine lv_tableIn (off := 39) (tgt := 40) F.1 F.2.1 dX9_gateGives_1 (by rw [c_1]; decide) (by rw [c_1]; decide) (by rw [c_1]; rfl) (by decide) ?_
    refine lv_iconst (v := 1) F.1 F.2.1 dX9_gateGives_40 (by decide) ?_
    refine lv_iload_n F.1 F.2.1 dX9_gateGives_41 rfl (lv_at hl 1 rfl) ?_
    refine lv_isub F.1 F.2.1 dX9_gateGives_42 ?_
    exact rw_ret F hr hlk hK hW hS h dX9_gateGives_43
  · have h := (if_neg c_1).symm.trans h
    by_cases c_2 : a0 = 1
    · have h := (if_pos c_2).symm.trans h
      refine lv_tableIn (off := 43) (tgt := 44) F.1 F.2.1 dX9_gateGives_1 (by rw [c_2]; decide) (by rw [c_2]; decide) (by rw [c_2]; rfl) (by decide) ?_
      refine lv_iload_n F.1 F.2.1 dX9_gateGives_44 rfl (lv_at hl 1 rfl) ?_
      refine lv_iload_n F.1 F.2.1 dX9_gateGives_45 rfl (lv_at hl 2 rfl) ?_
      refine lv_iand F.1 F.2.1 dX9_gateGives_46 ?_
      exact rw_ret F hr hlk hK hW hS h dX9_gateGives_47
    · have h := (if_neg c_2).symm.trans h
      by_cases c_3 : a0 = 2
      · have h := (if_pos c_3).symm.trans h
        refine lv_tableIn (off := 47) (tgt := 48) F.1 F.2.1 dX9_gateGives_1 (by rw [c_3]; decide) (by rw [c_3]; decide) (by rw [c_3]; rfl) (by decide) ?_
        refine lv_iload_n F.1 F.2.1 dX9_gateGives_48 rfl (lv_at hl 1 rfl) ?_
        refine lv_iload_n F.1 F.2.1 dX9_gateGives_49 rfl (lv_at hl 2 rfl) ?_
        refine lv_ior F.1 F.2.1 dX9_gateGives_50 ?_
        exact rw_ret F hr hlk hK hW hS h dX9_gateGives_51
      · have h := (if_neg c_3).symm.trans h
        by_cases c_4 : a0 = 3
        · have h := (if_pos c_4).symm.trans h
          refine lv_tableIn (off := 51) (tgt := 52) F.1 F.2.1 dX9_gateGives_1 (by rw [c_4]; decide) (by rw [c_4]; decide) (by rw [c_4]; rfl) (by decide) ?_
          refine lv_iload_n F.1 F.2.1 dX9_gateGives_52 rfl (lv_at hl 1 rfl) ?_
          refine lv_iload_n F.1 F.2.1 dX9_gateGives_53 rfl (lv_at hl 2 rfl) ?_
          refine lv_ixor F.1 F.2.1 dX9_gateGives_54 ?_
          exact rw_ret F hr hlk hK hW hS h dX9_gateGives_55
        · have h := (if_neg c_4).symm.trans h
          by_cases c_5 : a0 = 4
          · have h := (if_pos c_5).symm.trans h
            refine lv_tableIn (off := 55) (tgt := 56) F.1 F.2.1 dX9_gateGives_1 (by rw [c_5]; decide) (by rw [c_5]; decide) (by rw [c_5]; rfl) (by decide) ?_
            refine lv_iconst (v := 1) F.1 F.2.1 dX9_gateGives_56 (by decide) ?_
            refine lv_iload_n F.1 F.2.1 dX9_gateGives_57 rfl (lv_at hl 1 rfl) ?_
            refine lv_iload_n F.1 F.2.1 dX9_gateGives_58 rfl (lv_at hl 2 rfl) ?_
            refine lv_iand F.1 F.2.1 dX9_gateGives_59 ?_
            refine lv_isub F.1 F.2.1 dX9_gateGives_60 ?_
            exact rw_ret F hr hlk hK hW hS h dX9_gateGives_61
          · have h := (if_neg c_5).symm.trans h
            by_cases c_6 : a0 = 5
            · have h := (if_pos c_6).symm.trans h
              refine lv_tableIn (off := 61) (tgt := 62) F.1 F.2.1 dX9_gateGives_1 (by rw [c_6]; decide) (by rw [c_6]; decide) (by rw [c_6]; rfl) (by decide) ?_
              refine lv_iconst (v := 1) F.1 F.2.1 dX9_gateGives_62 (by decide) ?_
              refine lv_iload_n F.1 F.2.1 dX9_gateGives_63 rfl (lv_at hl 1 rfl) ?_
              refine lv_iload_n F.1 F.2.1 dX9_gateGives_64 rfl (lv_at hl 2 rfl) ?_
              refine lv_ior F.1 F.2.1 dX9_gateGives_65 ?_
              refine lv_isub F.1 F.2.1 dX9_gateGives_66 ?_
              exact rw_ret F hr hlk hK hW hS h dX9_gateGives_67
            · have h := (if_neg c_6).symm.trans h
              have nc_1 := lv_neT c_1 (a := 0) (by decide)
              have nc_2 := lv_neT c_2 (a := 1) (by decide)
              have nc_3 := lv_neT c_3 (a := 2) (by decide)
              have nc_4 := lv_neT c_4 (a := 3) (by decide)
              have nc_5 := lv_neT c_5 (a := 4) (by decide)
              have nc_6 := lv_neT c_6 (a := 5) (by decide)
              refine lv_tableOut (tgt := 68) F.1 F.2.1 dX9_gateGives_1 (by omega) (by decide) ?_
              refine lv_iload_n F.1 F.2.1 dX9_gateGives_68 rfl (lv_at hl 1 rfl) ?_
              refine lv_iconst (v := 1) F.1 F.2.1 dX9_gateGives_69 (by decide) ?_
              refine lv_icmp_ne (tgt := 77) F.1 F.2.1 dX9_gateGives_70 (by decide) (fun c_7 => ?_) (fun c_7 => ?_)
              · have h := (if_neg c_7).symm.trans h
                refine lv_iload_n F.1 F.2.1 dX9_gateGives_77 rfl (lv_at hl 3 rfl) ?_
                exact w_X9_gateGives_78 F hr hlk hK out  _ _ _ _ _  hW hS (lv_sub hl [] rfl) h
              · have h := (if_pos c_7).symm.trans h
                refine lv_iload_n F.1 F.2.1 dX9_gateGives_73 rfl (lv_at hl 2 rfl) ?_
                refine lv_goto (tgt := 78) F.1 F.2.1 dX9_gateGives_74 (by decide) ?_
                exact w_X9_gateGives_78 F hr hlk hK out  _ _ _ _ _  hW hS (lv_sub hl [] rfl) h
