/-! CellCoverModel.told(II)I -/
abbrev rm_X9_told : Room := { frames := 0, cells := 0, slots := 0, locals := 0 }
theorem in_X9_told_X9 : ∀ w ∈ wsX90, w ∈ wsX9_told := by decide +kernel
theorem lk_X9_told_31 : Cond.fieldLink RX9 31 "CellCoverModel" "vWhat" "[I" ∈ wsX9_told := by decide +kernel
theorem lk_X9_told_34 : Cond.fieldLink RX9 34 "CellCoverModel" "vOne" "[I" ∈ wsX9_told := by decide +kernel
theorem lk_X9_told_37 : Cond.fieldLink RX9 37 "CellCoverModel" "vTwo" "[I" ∈ wsX9_told := by decide +kernel
theorem lk_X9_told_43 : Cond.fieldLink RX9 43 "CellCoverModel" "uses" "[I" ∈ wsX9_told := by decide +kernel
theorem lk_X9_told_50 : Cond.fieldLink RX9 50 "CellCoverModel" "root" "[Z" ∈ wsX9_told := by decide +kernel
theorem lk_X9_told_46 : Cond.fieldLink RX9 46 "CellCoverModel" "lives" "[Z" ∈ wsX9_told := by decide +kernel
set_option maxHeartbeats 4000000 in
set_option maxRecDepth 100000 in
theorem w_X9_told_78 {p : Program} {l : Launch} {e : Env} {s : State} {m : MethodId} {args : Array Value} {below : List Frame} {meth : Method} {c : Code} {G : GT} {A : Nat → Prop} (F : CallFix p m c cX9_told 3 s args wsX9_told RX9) (hr : meth.sig.returnType = (some .int)) (hlk : meth.locks = false) (hK : va_K G.1 vwCl (tyl G) s) (out : Int32 × St) : ∀ (S : St) (y0 : Int32) (H : Heap) (locs : List Loc) (ls : Array Slot), Wd shM idsM G A S H → va_S A s.heap H locs → lv_has ls 3 [] → j_X9_told_78 S y0 = some out → W p l e rm_X9_told s m args below meth c H locs 0 0 (MQ below (QI shM idsM G A out) args s 0 0 A) (F0 m 78 ls [.int y0]) := by
  intro S y0 H locs ls hW hS hl h
  unfold j_X9_told_78 at h
  exact rw_ret F hr hlk hK hW hS h dX9_told_78
set_option maxHeartbeats 4000000 in
set_option maxRecDepth 100000 in
theorem w_X9_told_93 {p : Program} {l : Launch} {e : Env} {s : State} {m : MethodId} {args : Array Value} {below : List Frame} {meth : Method} {c : Code} {G : GT} {A : Nat → Prop} (F : CallFix p m c cX9_told 3 s args wsX9_told RX9) (hr : meth.sig.returnType = (some .int)) (hlk : meth.locks = false) (hK : va_K G.1 vwCl (tyl G) s) (out : Int32 × St) : ∀ (S : St) (y0 : Int32) (H : Heap) (locs : List Loc) (ls : Array Slot), Wd shM idsM G A S H → va_S A s.heap H locs → lv_has ls 3 [] → j_X9_told_93 S y0 = some out → W p l e rm_X9_told s m args below meth c H locs 0 0 (MQ below (QI shM idsM G A out) args s 0 0 A) (F0 m 93 ls [.int y0]) := by
  intro S y0 H locs ls hW hS hl h
  unfold j_X9_told_93 at h
  exact rw_ret F hr hlk hK hW hS h dX9_told_93
set_option maxHeartbeats 4000000 in
set_option maxRecDepth 100000 in
theorem c_X9_told (l : Launch) (G : GT) (A : Nat → Prop) (a0 : Int32) (a1 : Int32) (S : St) (out : Int32 × St) (h : f_X9_told a0 a1 S = some out) : Met l yX9_told wsX9_told rm_X9_told (va_Pc [.ref (G.2.2 0 0), .int a0, .int a1] (WD shM idsM G A S)) (QI shM idsM G A out) 0 0 A := by
  refine Met.ofW (cc := cX9_told) (maxL := 3) (ret := (some .int)) (by decide) rfl ?_
  intro p e s m args below meth c s₁ B hml hv
  obtain ⟨rfl, hW, hK⟩ := hv
  have F : CallFix p m c cX9_told 3 s _ wsX9_told RX9 := ⟨B.exec, B.bytes, hml, findClass_of_methodNamed B.named, atoms_spec (ws := wsX9_told) B.pre⟩
  have hr := B.returns
  have hlk := B.notSynchronized
  have hS : va_S A s.heap s.heap [] := va_S.rf
  have hl := lv_entry ([.ref (G.2.2 0 0), .int a0, .int a1]) (n := 3) (Nat.le_of_ble_eq_true rfl)
  rw [lg_entry_eq]
  generalize (lg_sl ([.ref (G.2.2 0 0), .int a0, .int a1]) ++ List.replicate (3 - (lg_sl ([.ref (G.2.2 0 0), .int a0, .int a1])).length) Slot.unset).toArray = ls at hl ⊢
  have hl : lv_has ls 3 [(0, .ref (G.2.2 0 0)), (1, .int a0), (2, .int a1)] := hl
  unfold f_X9_told at h
  refine lv_iload_n F.1 F.2.1 dX9_told_0 rfl (lv_at hl 2 rfl) ?_
  by_cases c_1 : a1 = 0
  · have h := (if_pos c_1).symm.trans h
    refine lv_tableIn (off := 35) (tgt := 36) F.1 F.2.1 dX9_told_1 (by rw [c_1]; decide) (by rw [c_1]; decide) (by rw [c_1]; rfl) (by decide) ?_
    refine lv_aload_n F.1 F.2.1 dX9_told_36 rfl (lv_at hl 0 rfl) ?_
    refine rw_get (q0 := 0) F hK hW idM_0 rfl rfl in_X9_told_X9 12 (by decide) lk_X9_told_31 rfl dX9_told_37 ?_
    refine lv_iload_n F.1 F.2.1 dX9_told_40 rfl (lv_at hl 1 rfl) ?_
    obtain ⟨b_2, h⟩ := gd_some h
    refine rw_iald (q0 := 8) F hK hW idM_8 (fun _ => rfl) (ix_in b_2) dX9_told_41 ?_
    refine lv_topi (fun v_3 ev_3 => ?_)
    have h := lt_n ev_3 h
    exact rw_ret F hr hlk hK hW hS h dX9_told_42
  · have h := (if_neg c_1).symm.trans h
    by_cases c_4 : a1 = 1
    · have h := (if_pos c_4).symm.trans h
      refine lv_tableIn (off := 42) (tgt := 43) F.1 F.2.1 dX9_told_1 (by rw [c_4]; decide) (by rw [c_4]; decide) (by rw [c_4]; rfl) (by decide) ?_
      refine lv_aload_n F.1 F.2.1 dX9_told_43 rfl (lv_at hl 0 rfl) ?_
      refine rw_get (q0 := 0) F hK hW idM_0 rfl rfl in_X9_told_X9 13 (by decide) lk_X9_told_34 rfl dX9_told_44 ?_
      refine lv_iload_n F.1 F.2.1 dX9_told_47 rfl (lv_at hl 1 rfl) ?_
      obtain ⟨b_5, h⟩ := gd_some h
      refine rw_iald (q0 := 9) F hK hW idM_9 (fun _ => rfl) (ix_in b_5) dX9_told_48 ?_
      refine lv_topi (fun v_6 ev_6 => ?_)
      have h := lt_n ev_6 h
      exact rw_ret F hr hlk hK hW hS h dX9_told_49
    · have h := (if_neg c_4).symm.trans h
      by_cases c_7 : a1 = 2
      · have h := (if_pos c_7).symm.trans h
        refine lv_tableIn (off := 49) (tgt := 50) F.1 F.2.1 dX9_told_1 (by rw [c_7]; decide) (by rw [c_7]; decide) (by rw [c_7]; rfl) (by decide) ?_
        refine lv_aload_n F.1 F.2.1 dX9_told_50 rfl (lv_at hl 0 rfl) ?_
        refine rw_get (q0 := 0) F hK hW idM_0 rfl rfl in_X9_told_X9 14 (by decide) lk_X9_told_37 rfl dX9_told_51 ?_
        refine lv_iload_n F.1 F.2.1 dX9_told_54 rfl (lv_at hl 1 rfl) ?_
        obtain ⟨b_8, h⟩ := gd_some h
        refine rw_iald (q0 := 10) F hK hW idM_10 (fun _ => rfl) (ix_in b_8) dX9_told_55 ?_
        refine lv_topi (fun v_9 ev_9 => ?_)
        have h := lt_n ev_9 h
        exact rw_ret F hr hlk hK hW hS h dX9_told_56
      · have h := (if_neg c_7).symm.trans h
        by_cases c_10 : a1 = 3
        · have h := (if_pos c_10).symm.trans h
          refine lv_tableIn (off := 56) (tgt := 57) F.1 F.2.1 dX9_told_1 (by rw [c_10]; decide) (by rw [c_10]; decide) (by rw [c_10]; rfl) (by decide) ?_
          refine lv_aload_n F.1 F.2.1 dX9_told_57 rfl (lv_at hl 0 rfl) ?_
          refine rw_get (q0 := 0) F hK hW idM_0 rfl rfl in_X9_told_X9 16 (by decide) lk_X9_told_43 rfl dX9_told_58 ?_
          refine lv_iload_n F.1 F.2.1 dX9_told_61 rfl (lv_at hl 1 rfl) ?_
          obtain ⟨b_11, h⟩ := gd_some h
          refine rw_iald (q0 := 12) F hK hW idM_12 (fun _ => rfl) (ix_in b_11) dX9_told_62 ?_
          refine lv_topi (fun v_12 ev_12 => ?_)
          have h := lt_n ev_12 h
          exact rw_ret F hr hlk hK hW hS h dX9_told_63
        · have h := (if_neg c_10).symm.trans h
          by_cases c_13 : a1 = 4
          · have h := (if_pos c_13).symm.trans h
            refine lv_tableIn (off := 63) (tgt := 64) F.1 F.2.1 dX9_told_1 (by rw [c_13]; decide) (by rw [c_13]; decide) (by rw [c_13]; rfl) (by decide) ?_
            refine lv_aload_n F.1 F.2.1 dX9_told_64 rfl (lv_at hl 0 rfl) ?_
            refine rw_get (q0 := 0) F hK hW idM_0 rfl rfl in_X9_told_X9 18 (by decide) lk_X9_told_50 rfl dX9_told_65 ?_
            refine lv_iload_n F.1 F.2.1 dX9_told_68 rfl (lv_at hl 1 rfl) ?_
            obtain ⟨b_14, h⟩ := gd_some h
            refine rw_zald (q0 := 14) F hK hW idM_14 (fun _ => rfl) (ix_in b_14) dX9_told_69 ?_
            refine lv_topi (fun v_15 ev_15 => ?_)
            have h := lt_n ev_15 h
            refine lv_if_eq (tgt := 77) F.1 F.2.1 dX9_told_70 (by decide) (fun c_16 => ?_) (fun c_16 => ?_)
            · have h := (if_pos c_16).symm.trans h
              refine lv_iconst (v := 0) F.1 F.2.1 dX9_told_77 (by decide) ?_
              exact w_X9_told_78 F hr hlk hK out  _ _ _ _ _  hW hS (lv_sub hl [] rfl) h
            · have h := (if_neg c_16).symm.trans h
              refine lv_iconst (v := 1) F.1 F.2.1 dX9_told_73 (by decide) ?_
              refine lv_goto (tgt := 78) F.1 F.2.1 dX9_told_74 (by decide) ?_
              exact w_X9_told_78 F hr hlk hK out  _ _ _ _ _  hW hS (lv_sub hl [] rfl) h
          · have h := (if_neg c_13).symm.trans h
            have nc_1 := lv_neT c_1 (a := 0) (by decide)
            have nc_4 := lv_neT c_4 (a := 1) (by decide)
            have nc_7 := lv_neT c_7 (a := 2) (by decide)
            have nc_10 := lv_neT c_10 (a := 3) (by decide)
            have nc_13 := lv_neT c_13 (a := 4) (by decide)
            refine lv_tableOut (tgt := 79) F.1 F.2.1 dX9_told_1 (by omega) (by decide) ?_
            refine lv_aload_n F.1 F.2.1 dX9_told_79 rfl (lv_at hl 0 rfl) ?_
            refine rw_get (q0 := 0) F hK hW idM_0 rfl rfl in_X9_told_X9 17 (by decide) lk_X9_told_46 rfl dX9_told_80 ?_
            refine lv_iload_n F.1 F.2.1 dX9_told_83 rfl (lv_at hl 1 rfl) ?_
            obtain ⟨b_17, h⟩ := gd_some h
            refine rw_zald (q0 := 13) F hK hW idM_13 (fun _ => rfl) (ix_in b_17) dX9_told_84 ?_
            refine lv_topi (fun v_18 ev_18 => ?_)
            have h := lt_n ev_18 h
            refine lv_if_eq (tgt := 92) F.1 F.2.1 dX9_told_85 (by decide) (fun c_19 => ?_) (fun c_19 => ?_)
            · have h := (if_pos c_19).symm.trans h
              refine lv_iconst (v := 0) F.1 F.2.1 dX9_told_92 (by decide) ?_
              exact w_X9_told_93 F hr hlk hK out  _ _ _ _ _  hW hS (lv_sub hl [] rfl) h
            · have h := (if_neg c_19).symm.trans h
              refine lv_iconst (v := 1) F.1 F.2.1 dX9_told_88 (by decide) ?_
              refine lv_goto (tgt := 93) F.1 F.2.1 dX9_told_89 (by decide) ?_
              exact w_X9_told_93 F hr hlk hK out  _ _ _ _ _  hW hS (lv_sub hl [] rfl) h
/-! CellCoverModel.vertex(II)I -/
abbrev rm_X9_vertex : Room := { frames := 2, cells := 0, slots := 0, locals := 46 }
theorem lk_X9_vertex_184 : Cond.constantLong RX9 184 5 ∈ wsX9_vertex := by decide +kernel
set_option maxHeartbeats 4000000 in
set_option maxRecDepth 100000 in
theorem w_X9_vertex_30 {p : Program} {l : Launch} {e : Env} {s : State} {m : MethodId} {args : Array Value} {below : List Frame} {meth : Method} {c : Code} {G : GT} {A : Nat → Prop} (F : CallFix p m c cX9_vertex 3 s args wsX9_vertex RX9) (hr : meth.sig.returnType = (some .int)) (hlk : meth.locks = false) (hK : va_K G.1 vwCl (tyl G) s) (out : Int32 × St) : ∀ (S : St) (y0 : Int32) (H : Heap) (locs : List Loc) (ls : Array Slot), Wd shM idsM G A S H → va_S A s.heap H locs → lv_has ls 3 [] → j_X9_vertex_30 S y0 = some out → W p l e rm_X9_vertex s m args below meth c H locs 0 0 (MQ below (QI shM idsM G A out) args s 0 0 A) (F0 m 30 ls [.int y0]) := by
  intro S y0 H locs ls hW hS hl h
  unfold j_X9_vertex_30 at h
  exact rw_ret F hr hlk hK hW hS h dX9_vertex_30
set_option maxHeartbeats 4000000 in
set_option maxRecDepth 100000 in
theorem w_X9_vertex_29 {p : Program} {l : Launch} {e : Env} {s : State} {m : MethodId} {args : Array Value} {below : List Frame} {meth : Method} {c : Code} {G : GT} {A : Nat → Prop} (F : CallFix p m c cX9_vertex 3 s args wsX9_vertex RX9) (hr : meth.sig.returnType = (some .int)) (hlk : meth.locks = false) (hK : va_K G.1 vwCl (tyl G) s) (out : Int32 × St) : ∀ (S : St) (H : Heap) (locs : List Loc) (ls : Array Slot), Wd shM idsM G A S H → va_S A s.heap H locs → lv_has ls 3 [] → j_X9_vertex_29 S = some out → W p l e rm_X9_vertex s m args below meth c H locs 0 0 (MQ below (QI shM idsM G A out) args s 0 0 A) (F0 m 29 ls []) := by
  intro S H locs ls hW hS hl h
  unfold j_X9_vertex_29 at h
  refine lv_iconst (v := -1) F.1 F.2.1 dX9_vertex_29 (by decide) ?_
  exact w_X9_vertex_30 F hr hlk hK out  _ _ _ _ _  hW hS hl h
set_option maxHeartbeats 4000000 in
set_option maxRecDepth 100000 in
theorem c_X9_vertex (l : Launch) (G : GT) (A : Nat → Prop) (a0 : Int32) (a1 : Int32) (S : St) (out : Int32 × St) (h : f_X9_vertex a0 a1 S = some out) : Met l yX9_vertex wsX9_vertex rm_X9_vertex (va_Pc [.ref (G.2.2 0 0), .int a0, .int a1] (WD shM idsM G A S)) (QI shM idsM G A out) 0 0 A := by
  refine Met.ofW (cc := cX9_vertex) (maxL := 3) (ret := (some .int)) (by decide) rfl ?_
  intro p e s m args below meth c s₁ B hml hv
  obtain ⟨rfl, hW, hK⟩ := hv
  have F : CallFix p m c cX9_vertex 3 s _ wsX9_vertex RX9 := ⟨B.exec, B.bytes, hml, findClass_of_methodNamed B.named, atoms_spec (ws := wsX9_vertex) B.pre⟩
  have hr := B.returns
  have hlk := B.notSynchronized
  have hS : va_S A s.heap s.heap [] := va_S.rf
  have hl := lv_entry ([.ref (G.2.2 0 0), .int a0, .int a1]) (n := 3) (Nat.le_of_ble_eq_true rfl)
  rw [lg_entry_eq]
  generalize (lg_sl ([.ref (G.2.2 0 0), .int a0, .int a1]) ++ List.replicate (3 - (lg_sl ([.ref (G.2.2 0 0), .int a0, .int a1])).length) Slot.unset).toArray = ls at hl ⊢
  have hl : lv_has ls 3 [(0, .ref (G.2.2 0 0)), (1, .int a0), (2, .int a1)] := hl
  unfold f_X9_vertex at h
  refine lv_aload_n F.1 F.2.1 dX9_vertex_0 rfl (lv_at hl 0 rfl) ?_
  refine lv_iload_n F.1 F.2.1 dX9_vertex_1 rfl (lv_at hl 1 rfl) ?_
  obtain ⟨r_2, S_3, hq_1, h⟩ := bi_some h
  refine rw_vi F hK hW hS [.int a0] (rest := []) (c_X9_isVertex l G A a0 S (r_2, S_3) hq_1) (cwV 1 F.2.2.2.2 gX9_vertex_X9_isVertex rfl rfl rfl (by decide +kernel) ⟨Nat.le_of_ble_eq_true rfl, Nat.le_of_ble_eq_true rfl⟩) (rw_recv (q0 := 0) hK hW idM_0 rfl rfl) rfl hl.1 rfl (Nat.le_of_ble_eq_true rfl) dX9_vertex_2 (fun H locs hW hS => ?_)
  refine lv_if_eq (tgt := 29) F.1 F.2.1 dX9_vertex_5 (by decide) (fun c_4 => ?_) (fun c_4 => ?_)
  · have h := (if_pos c_4).symm.trans h
    exact w_X9_vertex_29 F hr hlk hK out  _ _ _ _  hW hS (lv_sub hl [] rfl) h
  · have h := (if_neg c_4).symm.trans h
    refine lv_iload_n F.1 F.2.1 dX9_vertex_8 rfl (lv_at hl 2 rfl) ?_
    refine lv_i2l (v := a1.toInt64) F.1 F.2.1 dX9_vertex_9 rfl ?_
    refine lv_lconst (v := 0) F.1 F.2.1 dX9_vertex_10 (by decide) ?_
    refine lv_ldc2 (v := 5) F.1 F.2.1 F.2.2.2.1 (F.2.2.2.2 _ lk_X9_vertex_184) dX9_vertex_11 ?_
    obtain ⟨r_6, S_7, hq_5, h⟩ := bi_some h
    refine rw_si F hK hW hS [.long a1.toInt64, .long 0, .long 5] (rest := []) (c_X9_in l G A a1.toInt64 0 5 S_3 (r_6, S_7) hq_5) (va_cwS 3 F.2.2.2.2 gX9_vertex_X9_in rfl rfl rfl (by decide +kernel) ⟨Nat.le_of_ble_eq_true rfl, Nat.le_of_ble_eq_true rfl⟩) rfl hl.1 rfl (Nat.le_of_ble_eq_true rfl) dX9_vertex_14 (fun H locs hW hS => ?_)
    refine lv_if_eq (tgt := 29) F.1 F.2.1 dX9_vertex_17 (by decide) (fun c_8 => ?_) (fun c_8 => ?_)
    · have h := (if_pos c_8).symm.trans h
      exact w_X9_vertex_29 F hr hlk hK out  _ _ _ _  hW hS (lv_sub hl [] rfl) h
    · have h := (if_neg c_8).symm.trans h
      refine lv_aload_n F.1 F.2.1 dX9_vertex_20 rfl (lv_at hl 0 rfl) ?_
      refine lv_iload_n F.1 F.2.1 dX9_vertex_21 rfl (lv_at hl 1 rfl) ?_
      refine lv_iload_n F.1 F.2.1 dX9_vertex_22 rfl (lv_at hl 2 rfl) ?_
      obtain ⟨r_10, S_11, hq_9, h⟩ := bi_some h
      refine rw_vi F hK hW hS [.int a0, .int a1] (rest := []) (c_X9_told l G A a0 a1 S_7 (r_10, S_11) hq_9) (cwV 2 F.2.2.2.2 gX9_vertex_X9_told rfl rfl rfl (by decide +kernel) ⟨Nat.le_of_ble_eq_true rfl, Nat.le_of_ble_eq_true rfl⟩) (rw_recv (q0 := 0) hK hW idM_0 rfl rfl) rfl hl.1 rfl (Nat.le_of_ble_eq_true rfl) dX9_vertex_23 (fun H locs hW hS => ?_)
      refine lv_goto (tgt := 30) F.1 F.2.1 dX9_vertex_26 (by decide) ?_
      exact w_X9_vertex_30 F hr hlk hK out  _ _ _ _ _  hW hS (lv_sub hl [] rfl) h
/-! CellCoverModel.type(JI)I -/
abbrev rm_X9_type : Room := { frames := 1, cells := 0, slots := 0, locals := 25 }
theorem in_X9_type_X9 : ∀ w ∈ wsX90, w ∈ wsX9_type := by decide +kernel
theorem lk_X9_type_189 : Cond.constantLong RX9 189 8 ∈ wsX9_type := by decide +kernel
theorem lk_X9_type_191 : Cond.fieldLink RX9 191 "CellCoverModel" "taped" "I" ∈ wsX9_type := by decide +kernel
theorem lk_X9_type_53 : Cond.fieldLink RX9 53 "CellCoverModel" "tape" "[I" ∈ wsX9_type := by decide +kernel
theorem lk_X9_type_194 : Cond.constantLong RX9 194 255 ∈ wsX9_type := by decide +kernel
set_option maxHeartbeats 4000000 in
set_option maxRecDepth 100000 in
theorem w_X9_type_33 {p : Program} {l : Launch} {e : Env} {s : State} {m : MethodId} {args : Array Value} {below : List Frame} {meth : Method} {c : Code} {G : GT} {A : Nat → Prop} (F : CallFix p m c cX9_type 5 s args wsX9_type RX9) (hr : meth.sig.returnType = (some .int)) (hlk : meth.locks = false) (hK : va_K G.1 vwCl (tyl G) s) (out : Int32 × St) : ∀ n : Nat, ∀ (S : St) (x1 : Int64) (x4 : Int32) (H : Heap) (locs : List Loc) (ls : Array Slot), Wd shM idsM G A S H → va_S A s.heap H locs → lv_has ls 5 [(0, .ref (G.2.2 0 0)), (1, .long x1), (4, .int x4)] → l_X9_type_33 n S x1 x4 = some out → W p l e rm_X9_type s m args below meth c H locs 0 0 (MQ below (QI shM idsM G A out) args s 0 0 A) (F0 m 33 ls []) := by
  intro n
  induction n with
  | zero =>
    intro S x1 x4 H locs ls hW hS hl h
    cases h
  | succ n Kb =>
    generalize hkb : l_X9_type_33 n = kb at Kb
    intro S x1 x4 H locs ls hW hS hl h
    rw [show l_X9_type_33 (n + 1) = b_X9_type_33 (l_X9_type_33 n) from rfl, hkb] at h
    unfold b_X9_type_33 at h
    refine lv_iload F.1 F.2.1 dX9_type_33 (lv_at hl 2 rfl) ?_
    refine lv_if_lt (tgt := 75) F.1 F.2.1 dX9_type_35 (by decide) (fun c_7 => ?_) (fun c_7 => ?_)
    · have h := (if_pos c_7).symm.trans h
      refine lv_aload_n F.1 F.2.1 dX9_type_75 rfl (lv_at hl 0 rfl) ?_
      refine rw_get (q0 := 0) F hK hW idM_0 rfl rfl in_X9_type_X9 20 (by decide) lk_X9_type_191 rfl dX9_type_76 ?_
      exact rw_ret F hr hlk hK hW hS h dX9_type_79
    · have h := (if_neg c_7).symm.trans h
      refine lv_aload_n F.1 F.2.1 dX9_type_38 rfl (lv_at hl 0 rfl) ?_
      refine rw_get (q0 := 0) F hK hW idM_0 rfl rfl in_X9_type_X9 19 (by decide) lk_X9_type_53 rfl dX9_type_39 ?_
      refine lv_aload_n F.1 F.2.1 dX9_type_42 rfl (lv_at hl 0 rfl) ?_
      refine rw_get (q0 := 0) F hK hW idM_0 rfl rfl in_X9_type_X9 20 (by decide) lk_X9_type_191 rfl dX9_type_43 ?_
      refine lv_lload_n F.1 F.2.1 dX9_type_46 rfl (lv_at hl 1 rfl) ?_
      refine lv_bipush (v := 8) F.1 F.2.1 dX9_type_47 (by decide) ?_
      refine lv_iload F.1 F.2.1 dX9_type_49 (lv_at hl 2 rfl) ?_
      refine lv_imul F.1 F.2.1 dX9_type_51 ?_
      refine lv_lshr (v := x1 >>> ((8 * x4).toInt64 &&& 63)) F.1 F.2.1 dX9_type_52 rfl ?_
      refine lv_ldc2 (v := 255) F.1 F.2.1 F.2.2.2.1 (F.2.2.2.2 _ lk_X9_type_194) dX9_type_53 ?_
      refine lv_land F.1 F.2.1 dX9_type_56 ?_
      refine lv_l2i (v := ((x1 >>> ((8 * x4).toInt64 &&& 63)) &&& 255).toInt32) F.1 F.2.1 dX9_type_57 rfl ?_
      obtain ⟨b_8, h⟩ := gd_some h
      refine rw_iast ndM (q0 := 15) F hK hW hS idM_15 (fun _ => rfl) (ix_in b_8) dX9_type_58 (fun H locs S_9 eS_9 hW hS => ?_)
      have h := lt_n eS_9 h
      refine lv_aload_n F.1 F.2.1 dX9_type_59 rfl (lv_at hl 0 rfl) ?_
      refine lv_dup F.1 F.2.1 dX9_type_60 rfl ?_
      refine rw_get (q0 := 0) F hK hW idM_0 rfl rfl in_X9_type_X9 20 (by decide) lk_X9_type_191 rfl dX9_type_61 ?_
      refine lv_iconst (v := 1) F.1 F.2.1 dX9_type_64 (by decide) ?_
      refine lv_iadd F.1 F.2.1 dX9_type_65 ?_
      refine rw_put ndM (q0 := 0) (x := (S_9 0 0 20) + 1) F hK hW hS idM_0 rfl rfl in_X9_type_X9 tyX9 tyX9_ok nmX9 20 (by decide) lk_X9_type_191 rfl (ty := .int) (by decide +kernel) rfl rfl (Nat.le_of_ble_eq_true rfl) rfl dX9_type_66 (fun H locs S_10 eS_10 hW hS => ?_)
      have h := lt_n eS_10 h
      obtain ⟨v_11, ev_11⟩ : ∃ y : Int32, y = x4 + (-1) := ⟨_, rfl⟩
      have h := lt_n ev_11 h
      refine lv_iinc (v := v_11) (lv' := [(4, .int v_11), (0, .ref (G.2.2 0 0)), (1, .long x1)]) F.1 F.2.1 dX9_type_69 hl (k := 2) rfl (by rw [ev_11]; rfl) (by decide) rfl (fun ls hl => ?_)
      refine lv_goto (tgt := 33) F.1 F.2.1 dX9_type_72 (by decide) ?_
      exact Kb _ _ _ _ _ _  hW hS (lv_sub hl [1, 2, 0] rfl) h
set_option maxHeartbeats 4000000 in
set_option maxRecDepth 100000 in
theorem c_X9_type (l : Launch) (G : GT) (A : Nat → Prop) (a0 : Int64) (a1 : Int32) (S : St) (out : Int32 × St) (h : f_X9_type a0 a1 S = some out) : Met l yX9_type wsX9_type rm_X9_type (va_Pc [.ref (G.2.2 0 0), .long a0, .int a1] (WD shM idsM G A S)) (QI shM idsM G A out) 0 0 A := by
  refine Met.ofW (cc := cX9_type) (maxL := 5) (ret := (some .int)) (by decide) rfl ?_
  intro p e s m args below meth c s₁ B hml hv
  obtain ⟨rfl, hW, hK⟩ := hv
  have F : CallFix p m c cX9_type 5 s _ wsX9_type RX9 := ⟨B.exec, B.bytes, hml, findClass_of_methodNamed B.named, atoms_spec (ws := wsX9_type) B.pre⟩
  have hr := B.returns
  have hlk := B.notSynchronized
  have hS : va_S A s.heap s.heap [] := va_S.rf
  have hl := lv_entry ([.ref (G.2.2 0 0), .long a0, .int a1]) (n := 5) (Nat.le_of_ble_eq_true rfl)
  rw [lg_entry_eq]
  generalize (lg_sl ([.ref (G.2.2 0 0), .long a0, .int a1]) ++ List.replicate (5 - (lg_sl ([.ref (G.2.2 0 0), .long a0, .int a1])).length) Slot.unset).toArray = ls at hl ⊢
  have hl : lv_has ls 5 [(0, .ref (G.2.2 0 0)), (1, .long a0), (3, .int a1)] := hl
  unfold f_X9_type at h
  refine lv_iload_n F.1 F.2.1 dX9_type_0 rfl (lv_at hl 2 rfl) ?_
  refine lv_i2l (v := a1.toInt64) F.1 F.2.1 dX9_type_1 rfl ?_
  refine lv_lconst (v := 1) F.1 F.2.1 dX9_type_2 (by decide) ?_
  refine lv_ldc2 (v := 8) F.1 F.2.1 F.2.2.2.1 (F.2.2.2.2 _ lk_X9_type_189) dX9_type_3 ?_
  obtain ⟨r_2, S_3, hq_1, h⟩ := bi_some h
  refine rw_si F hK hW hS [.long a1.toInt64, .long 1, .long 8] (rest := []) (c_X9_in l G A a1.toInt64 1 8 S (r_2, S_3) hq_1) (va_cwS 3 F.2.2.2.2 gX9_type_X9_in rfl rfl rfl (by decide +kernel) ⟨Nat.le_of_ble_eq_true rfl, Nat.le_of_ble_eq_true rfl⟩) rfl hl.1 rfl (Nat.le_of_ble_eq_true rfl) dX9_type_6 (fun H locs hW hS => ?_)
  refine lv_if_ne (tgt := 14) F.1 F.2.1 dX9_type_9 (by decide) (fun c_4 => ?_) (fun c_4 => ?_)
  · have h := (if_neg c_4).symm.trans h
    refine lv_aload_n F.1 F.2.1 dX9_type_14 rfl (lv_at hl 0 rfl) ?_
    refine rw_get (q0 := 0) F hK hW idM_0 rfl rfl in_X9_type_X9 20 (by decide) lk_X9_type_191 rfl dX9_type_15 ?_
    refine lv_iload_n F.1 F.2.1 dX9_type_18 rfl (lv_at hl 2 rfl) ?_
    refine lv_iadd F.1 F.2.1 dX9_type_19 ?_
    refine lv_bipush (v := 60) F.1 F.2.1 dX9_type_20 (by decide) ?_
    refine lv_icmp_le (tgt := 28) F.1 F.2.1 dX9_type_22 (by decide) (fun c_5 => ?_) (fun c_5 => ?_)
    · have h := (if_pos c_5).symm.trans h
      refine lv_iload_n F.1 F.2.1 dX9_type_28 rfl (lv_at hl 2 rfl) ?_
      refine lv_iconst (v := 1) F.1 F.2.1 dX9_type_29 (by decide) ?_
      refine lv_isub F.1 F.2.1 dX9_type_30 ?_
      refine lv_topi (fun v_6 ev_6 => ?_)
      have h := lt_n ev_6 h
      refine lv_istore (lv' := [(4, .int v_6), (0, .ref (G.2.2 0 0)), (1, .long a0), (3, .int a1)]) F.1 F.2.1 dX9_type_31 hl (by decide) rfl (fun ls hl => ?_)
      refine w_X9_type_33 F hr hlk hK out   5000 _ _ _ _ _ _  hW hS (lv_sub hl [1, 2, 0] rfl) h
    · have h := (if_neg c_5).symm.trans h
      refine lv_bipush (v := -3) F.1 F.2.1 dX9_type_25 (by decide) ?_
      exact rw_ret F hr hlk hK hW hS h dX9_type_27
  · have h := (if_pos c_4).symm.trans h
    refine lv_iconst (v := -1) F.1 F.2.1 dX9_type_12 (by decide) ?_
    exact rw_ret F hr hlk hK hW hS h dX9_type_13
/-! CellCoverModel.byteAt(I)I -/
abbrev rm_X9_byteAt : Room := { frames := 0, cells := 0, slots := 0, locals := 0 }
theorem in_X9_byteAt_X9 : ∀ w ∈ wsX90, w ∈ wsX9_byteAt := by decide +kernel
theorem lk_X9_byteAt_191 : Cond.fieldLink RX9 191 "CellCoverModel" "taped" "I" ∈ wsX9_byteAt := by decide +kernel
theorem lk_X9_byteAt_53 : Cond.fieldLink RX9 53 "CellCoverModel" "tape" "[I" ∈ wsX9_byteAt := by decide +kernel
set_option maxHeartbeats 4000000 in
set_option maxRecDepth 100000 in
theorem w_X9_byteAt_18 {p : Program} {l : Launch} {e : Env} {s : State} {m : MethodId} {args : Array Value} {below : List Frame} {meth : Method} {c : Code} {G : GT} {A : Nat → Prop} (F : CallFix p m c cX9_byteAt 2 s args wsX9_byteAt RX9) (hr : meth.sig.returnType = (some .int)) (hlk : meth.locks = false) (hK : va_K G.1 vwCl (tyl G) s) (out : Int32 × St) : ∀ (S : St) (y0 : Int32) (H : Heap) (locs : List Loc) (ls : Array Slot), Wd shM idsM G A S H → va_S A s.heap H locs → lv_has ls 2 [] → j_X9_byteAt_18 S y0 = some out → W p l e rm_X9_byteAt s m args below meth c H locs 0 0 (MQ below (QI shM idsM G A out) args s 0 0 A) (F0 m 18 ls [.int y0]) := by
  intro S y0 H locs ls hW hS hl h
  unfold j_X9_byteAt_18 at h
  exact rw_ret F hr hlk hK hW hS h dX9_byteAt_18
set_option maxHeartbeats 4000000 in
set_option maxRecDepth 100000 in
theorem c_X9_byteAt (l : Launch) (G : GT) (A : Nat → Prop) (a0 : Int32) (S : St) (out : Int32 × St) (h : f_X9_byteAt a0 S = some out) : Met l yX9_byteAt wsX9_byteAt rm_X9_byteAt (va_Pc [.ref (G.2.2 0 0), .int a0] (WD shM idsM G A S)) (QI shM idsM G A out) 0 0 A := by
  refine Met.ofW (cc := cX9_byteAt) (maxL := 2) (ret := (some .int)) (by decide) rfl ?_
  intro p e s m args below meth c s₁ B hml hv
  obtain ⟨rfl, hW, hK⟩ := hv
  have F : CallFix p m c cX9_byteAt 2 s _ wsX9_byteAt RX9 := ⟨B.exec, B.bytes, hml, findClass_of_methodNamed B.named, atoms_spec (ws := wsX9_byteAt) B.pre⟩
  have hr := B.returns
  have hlk := B.notSynchronized
  have hS : va_S A s.heap s.heap [] := va_S.rf
  have hl := lv_entry ([.ref (G.2.2 0 0), .int a0]) (n := 2) (Nat.le_of_ble_eq_true rfl)
  rw [lg_entry_eq]
  generalize (lg_sl ([.ref (G.2.2 0 0), .int a0]) ++ List.replicate (2 - (lg_sl ([.ref (G.2.2 0 0), .int a0])).length) Slot.unset).toArray = ls at hl ⊢
  have hl : lv_has ls 2 [(0, .ref (G.2.2 0 0)), (1, .int a0)] := hl
  unfold f_X9_byteAt at h
  refine lv_iload_n F.1 F.2.1 dX9_byteAt_0 rfl (lv_at hl 1 rfl) ?_
  refine lv_aload_n F.1 F.2.1 dX9_byteAt_1 rfl (lv_at hl 0 rfl) ?_
  refine rw_get (q0 := 0) F hK hW idM_0 rfl rfl in_X9_byteAt_X9 20 (by decide) lk_X9_byteAt_191 rfl dX9_byteAt_2 ?_
  refine lv_icmp_ge (tgt := 17) F.1 F.2.1 dX9_byteAt_5 (by decide) (fun c_1 => ?_) (fun c_1 => ?_)
  · have h := (if_pos c_1).symm.trans h
    refine lv_iconst (v := -1) F.1 F.2.1 dX9_byteAt_17 (by decide) ?_
    exact w_X9_byteAt_18 F hr hlk hK out  _ _ _ _ _  hW hS (lv_sub hl [] rfl) h
  · have h := (if_neg c_1).symm.trans h
    refine lv_aload_n F.1 F.2.1 dX9_byteAt_8 rfl (lv_at hl 0 rfl) ?_
    refine rw_get (q0 := 0) F hK hW idM_0 rfl rfl in_X9_byteAt_X9 19 (by decide) lk_X9_byteAt_53 rfl dX9_byteAt_9 ?_
    refine lv_iload_n F.1 F.2.1 dX9_byteAt_12 rfl (lv_at hl 1 rfl) ?_
    obtain ⟨b_2, h⟩ := gd_some h
    refine rw_iald (q0 := 15) F hK hW idM_15 (fun _ => rfl) (ix_in b_2) dX9_byteAt_13 ?_
    refine lv_topi (fun v_3 ev_3 => ?_)
    have h := lt_n ev_3 h
    refine lv_goto (tgt := 18) F.1 F.2.1 dX9_byteAt_14 (by decide) ?_
    exact w_X9_byteAt_18 F hr hlk hK out  _ _ _ _ _  hW hS (lv_sub hl [] rfl) h
/-! CellCoverModel.wrong(II)V -/
abbrev rm_X9_wrong : Room := { frames := 0, cells := 0, slots := 0, locals := 0 }
theorem in_X9_wrong_X9 : ∀ w ∈ wsX90, w ∈ wsX9_wrong := by decide +kernel
theorem lk_X9_wrong_196 : Cond.fieldLink RX9 196 "CellCoverModel" "fault" "I" ∈ wsX9_wrong := by decide +kernel
theorem lk_X9_wrong_199 : Cond.fieldLink RX9 199 "CellCoverModel" "faultAt" "I" ∈ wsX9_wrong := by decide +kernel
set_option maxHeartbeats 4000000 in
set_option maxRecDepth 100000 in
theorem w_X9_wrong_17 {p : Program} {l : Launch} {e : Env} {s : State} {m : MethodId} {args : Array Value} {below : List Frame} {meth : Method} {c : Code} {G : GT} {A : Nat → Prop} (F : CallFix p m c cX9_wrong 3 s args wsX9_wrong RX9) (hr : meth.sig.returnType = none) (hlk : meth.locks = false) (hK : va_K G.1 vwCl (tyl G) s) (out : St) : ∀ (S : St) (H : Heap) (locs : List Loc) (ls : Array Slot), Wd shM idsM G A S H → va_S A s.heap H locs → lv_has ls 3 [] → j_X9_wrong_17 S = some out → W p l e rm_X9_wrong s m args below meth c H locs 0 0 (MQ below (QV shM idsM G A out) args s 0 0 A) (F0 m 17 ls []) := by
  intro S H locs ls hW hS hl h
  unfold j_X9_wrong_17 at h
  exact rw_retv F hr hlk hK hW hS h dX9_wrong_17
set_option maxHeartbeats 4000000 in
set_option maxRecDepth 100000 in
theorem c_X9_wrong (l : Launch) (G : GT) (A : Nat → Prop) (a0 : Int32) (a1 : Int32) (S : St) (out : St) (h : f_X9_wrong a0 a1 S = some out) : Met l yX9_wrong wsX9_wrong rm_X9_wrong (va_Pc [.ref (G.2.2 0 0), .int a0, .int a1] (WD shM idsM G A S)) (QV shM idsM G A out) 0 0 A := by
  refine Met.ofW (cc := cX9_wrong) (maxL := 3) (ret := none) (by decide) rfl ?_
  intro p e s m args below meth c s₁ B hml hv
  obtain ⟨rfl, hW, hK⟩ := hv
  have F : CallFix p m c cX9_wrong 3 s _ wsX9_wrong RX9 := ⟨B.exec, B.bytes, hml, findClass_of_methodNamed B.named, atoms_spec (ws := wsX9_wrong) B.pre⟩
  have hr := B.returns
  have hlk := B.notSynchronized
  have hS : va_S A s.heap s.heap [] := va_S.rf
  have hl := lv_entry ([.ref (G.2.2 0 0), .int a0, .int a1]) (n := 3) (Nat.le_of_ble_eq_true rfl)
  rw [lg_entry_eq]
  generalize (lg_sl ([.ref (G.2.2 0 0), .int a0, .int a1]) ++ List.replicate (3 - (lg_sl ([.ref (G.2.2 0 0), .int a0, .int a1])).length) Slot.unset).toArray = ls at hl ⊢
  have hl : lv_has ls 3 [(0, .ref (G.2.2 0 0)), (1, .int a0), (2, .int a1)] := hl
  unfold f_X9_wrong at h
  refine lv_aload_n F.1 F.2.1 dX9_wrong_0 rfl (lv_at hl 0 rfl) ?_
  refine rw_get (q0 := 0) F hK hW idM_0 rfl rfl in_X9_wrong_X9 34 (by decide) lk_X9_wrong_196 rfl dX9_wrong_1 ?_
  refine lv_if_ne (tgt := 17) F.1 F.2.1 dX9_wrong_4 (by decide) (fun c_1 => ?_) (fun c_1 => ?_)
  · have h := (if_neg c_1).symm.trans h
    exact w_X9_wrong_17 F hr hlk hK out  _ _ _ _  hW hS (lv_sub hl [] rfl) h
  · have h := (if_pos c_1).symm.trans h
    refine lv_aload_n F.1 F.2.1 dX9_wrong_7 rfl (lv_at hl 0 rfl) ?_
    refine lv_iload_n F.1 F.2.1 dX9_wrong_8 rfl (lv_at hl 1 rfl) ?_
    refine rw_put ndM (q0 := 0) (x := a0) F hK hW hS idM_0 rfl rfl in_X9_wrong_X9 tyX9 tyX9_ok nmX9 34 (by decide) lk_X9_wrong_196 rfl (ty := .int) (by decide +kernel) rfl rfl (Nat.le_of_ble_eq_true rfl) rfl dX9_wrong_9 (fun H locs S_2 eS_2 hW hS => ?_)
    have h := lt_n eS_2 h
    refine lv_aload_n F.1 F.2.1 dX9_wrong_12 rfl (lv_at hl 0 rfl) ?_
    refine lv_iload_n F.1 F.2.1 dX9_wrong_13 rfl (lv_at hl 2 rfl) ?_
    refine rw_put ndM (q0 := 0) (x := a1) F hK hW hS idM_0 rfl rfl in_X9_wrong_X9 tyX9 tyX9_ok nmX9 35 (by decide) lk_X9_wrong_199 rfl (ty := .int) (by decide +kernel) rfl rfl (Nat.le_of_ble_eq_true rfl) rfl dX9_wrong_14 (fun H locs S_3 eS_3 hW hS => ?_)
    have h := lt_n eS_3 h
    exact w_X9_wrong_17 F hr hlk hK out  _ _ _ _  hW hS (lv_sub hl [] rfl) h
/-! CellCoverModel.blanks()V -/
abbrev rm_X9_blanks : Room := { frames := 1, cells := 0, slots := 0, locals := 21 }
theorem in_X9_blanks_X9 : ∀ w ∈ wsX90, w ∈ wsX9_blanks := by decide +kernel
theorem lk_X9_blanks_202 : Cond.fieldLink RX9 202 "CellCoverModel" "at" "I" ∈ wsX9_blanks := by decide +kernel
set_option maxHeartbeats 4000000 in
set_option maxRecDepth 100000 in
theorem w_X9_blanks_0 {p : Program} {l : Launch} {e : Env} {s : State} {m : MethodId} {args : Array Value} {below : List Frame} {meth : Method} {c : Code} {G : GT} {A : Nat → Prop} (F : CallFix p m c cX9_blanks 1 s args wsX9_blanks RX9) (hr : meth.sig.returnType = none) (hlk : meth.locks = false) (hK : va_K G.1 vwCl (tyl G) s) (out : St) : ∀ n : Nat, ∀ (S : St) (H : Heap) (locs : List Loc) (ls : Array Slot), Wd shM idsM G A S H → va_S A s.heap H locs → lv_has ls 1 [(0, .ref (G.2.2 0 0))] → l_X9_blanks_0 n S = some out → W p l e rm_X9_blanks s m args below meth c H locs 0 0 (MQ below (QV shM idsM G A out) args s 0 0 A) (F0 m 0 ls []) := by
  intro n
  induction n with
  | zero =>
    intro S H locs ls hW hS hl h
    cases h
  | succ n Kb =>
    generalize hkb : l_X9_blanks_0 n = kb at Kb
    intro S H locs ls hW hS hl h
    rw [show l_X9_blanks_0 (n + 1) = b_X9_blanks_0 (l_X9_blanks_0 n) from rfl, hkb] at h
    unfold b_X9_blanks_0 at h
    refine lv_aload_n F.1 F.2.1 dX9_blanks_0 rfl (lv_at hl 0 rfl) ?_
    refine lv_aload_n F.1 F.2.1 dX9_blanks_1 rfl (lv_at hl 0 rfl) ?_
    refine rw_get (q0 := 0) F hK hW idM_0 rfl rfl in_X9_blanks_X9 33 (by decide) lk_X9_blanks_202 rfl dX9_blanks_2 ?_
    obtain ⟨r_2, S_3, hq_1, h⟩ := bi_some h
    refine rw_vi F hK hW hS [.int (S 0 0 33)] (rest := []) (c_X9_byteAt l G A (S 0 0 33) S (r_2, S_3) hq_1) (cwV 1 F.2.2.2.2 gX9_blanks_X9_byteAt rfl rfl rfl (by decide +kernel) ⟨Nat.le_of_ble_eq_true rfl, Nat.le_of_ble_eq_true rfl⟩) (rw_recv (q0 := 0) hK hW idM_0 rfl rfl) rfl hl.1 rfl (Nat.le_of_ble_eq_true rfl) dX9_blanks_5 (fun H locs hW hS => ?_)
    refine lv_bipush (v := 32) F.1 F.2.1 dX9_blanks_8 (by decide) ?_
    refine lv_icmp_ne (tgt := 26) F.1 F.2.1 dX9_blanks_10 (by decide) (fun c_4 => ?_) (fun c_4 => ?_)
    · have h := (if_neg c_4).symm.trans h
      exact rw_retv F hr hlk hK hW hS h dX9_blanks_26
    · have h := (if_pos c_4).symm.trans h
      refine lv_aload_n F.1 F.2.1 dX9_blanks_13 rfl (lv_at hl 0 rfl) ?_
      refine lv_dup F.1 F.2.1 dX9_blanks_14 rfl ?_
      refine rw_get (q0 := 0) F hK hW idM_0 rfl rfl in_X9_blanks_X9 33 (by decide) lk_X9_blanks_202 rfl dX9_blanks_15 ?_
      refine lv_iconst (v := 1) F.1 F.2.1 dX9_blanks_18 (by decide) ?_
      refine lv_iadd F.1 F.2.1 dX9_blanks_19 ?_
      refine rw_put ndM (q0 := 0) (x := (S_3 0 0 33) + 1) F hK hW hS idM_0 rfl rfl in_X9_blanks_X9 tyX9 tyX9_ok nmX9 33 (by decide) lk_X9_blanks_202 rfl (ty := .int) (by decide +kernel) rfl rfl (Nat.le_of_ble_eq_true rfl) rfl dX9_blanks_20 (fun H locs S_5 eS_5 hW hS => ?_)
      have h := lt_n eS_5 h
      refine lv_goto (tgt := 0) F.1 F.2.1 dX9_blanks_23 (by decide) ?_
      exact Kb _ _ _ _  hW hS hl h
set_option maxHeartbeats 4000000 in
set_option maxRecDepth 100000 in
theorem c_X9_blanks (l : Launch) (G : GT) (A : Nat → Prop) (S : St) (out : St) (h : f_X9_blanks S = some out) : Met l yX9_blanks wsX9_blanks rm_X9_blanks (va_Pc [.ref (G.2.2 0 0)] (WD shM idsM G A S)) (QV shM idsM G A out) 0 0 A := by
  refine Met.ofW (cc := cX9_blanks) (maxL := 1) (ret := none) (by decide) rfl ?_
  intro p e s m args below meth c s₁ B hml hv
  obtain ⟨rfl, hW, hK⟩ := hv
  have F : CallFix p m c cX9_blanks 1 s _ wsX9_blanks RX9 := ⟨B.exec, B.bytes, hml, findClass_of_methodNamed B.named, atoms_spec (ws := wsX9_blanks) B.pre⟩
  have hr := B.returns
  have hlk := B.notSynchronized
  have hS : va_S A s.heap s.heap [] := va_S.rf
  have hl := lv_entry ([.ref (G.2.2 0 0)]) (n := 1) (Nat.le_of_ble_eq_true rfl)
  rw [lg_entry_eq]
  generalize (lg_sl ([.ref (G.2.2 0 0)]) ++ List.replicate (1 - (lg_sl ([.ref (G.2.2 0 0)])).length) Slot.unset).toArray = ls at hl ⊢
  have hl : lv_has ls 1 [(0, .ref (G.2.2 0 0))] := hl
  unfold f_X9_blanks at h
  refine w_X9_blanks_0 F hr hlk hK out   5000 _ _ _ _  hW hS hl h
/-! CellCoverModel.number(II)I -/
abbrev rm_X9_number : Room := { frames := 2, cells := 0, slots := 0, locals := 41 }
theorem in_X9_number_X9 : ∀ w ∈ wsX90, w ∈ wsX9_number := by decide +kernel
theorem lk_X9_number_202 : Cond.fieldLink RX9 202 "CellCoverModel" "at" "I" ∈ wsX9_number := by decide +kernel
theorem lk_X9_number_211 : Cond.constantLong RX9 211 48 ∈ wsX9_number := by decide +kernel
theorem lk_X9_number_213 : Cond.constantLong RX9 213 57 ∈ wsX9_number := by decide +kernel
theorem lk_X9_number_53 : Cond.fieldLink RX9 53 "CellCoverModel" "tape" "[I" ∈ wsX9_number := by decide +kernel
set_option maxHeartbeats 4000000 in
set_option maxRecDepth 100000 in
theorem w_X9_number_12 {p : Program} {l : Launch} {e : Env} {s : State} {m : MethodId} {args : Array Value} {below : List Frame} {meth : Method} {c : Code} {G : GT} {A : Nat → Prop} (F : CallFix p m c cX9_number 5 s args wsX9_number RX9) (hr : meth.sig.returnType = (some .int)) (hlk : meth.locks = false) (hK : va_K G.1 vwCl (tyl G) s) (out : Int32 × St) (k76 : St → Int32 → Int32 → Int32 → Int32 → Option (Int32 × St)) (K76 : ∀ (S : St) (x1 : Int32) (x2 : Int32) (x3 : Int32) (x4 : Int32) (H : Heap) (locs : List Loc) (ls : Array Slot), Wd shM idsM G A S H → va_S A s.heap H locs → lv_has ls 5 [(0, .ref (G.2.2 0 0)), (1, .int x1), (2, .int x2), (3, .int x3), (4, .int x4)] → k76 S x1 x2 x3 x4 = some out → W p l e rm_X9_number s m args below meth c H locs 0 0 (MQ below (QI shM idsM G A out) args s 0 0 A) (F0 m 76 ls [])) : ∀ n : Nat, ∀ (S : St) (x1 : Int32) (x2 : Int32) (x3 : Int32) (x4 : Int32) (H : Heap) (locs : List Loc) (ls : Array Slot), Wd shM idsM G A S H → va_S A s.heap H locs → lv_has ls 5 [(0, .ref (G.2.2 0 0)), (1, .int x1), (2, .int x2), (3, .int x3), (4, .int x4)] → l_X9_number_12 k76 n S x1 x2 x3 x4 = some out → W p l e rm_X9_number s m args below meth c H locs 0 0 (MQ below (QI shM idsM G A out) args s 0 0 A) (F0 m 12 ls []) := by
  intro n
  induction n with
  | zero =>
    intro S x1 x2 x3 x4 H locs ls hW hS hl h
    cases h
  | succ n Kb =>
    generalize hkb : l_X9_number_12 k76 n = kb at Kb
    intro S x1 x2 x3 x4 H locs ls hW hS hl h
    rw [show l_X9_number_12 k76 (n + 1) = b_X9_number_12 (l_X9_number_12 k76 n) k76 from rfl, hkb] at h
    unfold b_X9_number_12 at h
    refine lv_aload_n F.1 F.2.1 dX9_number_12 rfl (lv_at hl 0 rfl) ?_
    refine rw_get (q0 := 0) F hK hW idM_0 rfl rfl in_X9_number_X9 33 (by decide) lk_X9_number_202 rfl dX9_number_13 ?_
    refine lv_iload_n F.1 F.2.1 dX9_number_16 rfl (lv_at hl 3 rfl) ?_
    refine lv_isub F.1 F.2.1 dX9_number_17 ?_
    refine lv_iconst (v := 3) F.1 F.2.1 dX9_number_18 (by decide) ?_
    refine lv_icmp_ge (tgt := 76) F.1 F.2.1 dX9_number_19 (by decide) (fun c_4 => ?_) (fun c_4 => ?_)
    · have h := (if_pos c_4).symm.trans h
      exact K76 _ _ _ _ _ _ _ _  hW hS hl h
    · have h := (if_neg c_4).symm.trans h
      refine lv_aload_n F.1 F.2.1 dX9_number_22 rfl (lv_at hl 0 rfl) ?_
      refine lv_aload_n F.1 F.2.1 dX9_number_23 rfl (lv_at hl 0 rfl) ?_
      refine rw_get (q0 := 0) F hK hW idM_0 rfl rfl in_X9_number_X9 33 (by decide) lk_X9_number_202 rfl dX9_number_24 ?_
      obtain ⟨r_6, S_7, hq_5, h⟩ := bi_some h
      refine rw_vi F hK hW hS [.int (S 0 0 33)] (rest := []) (c_X9_byteAt l G A (S 0 0 33) S (r_6, S_7) hq_5) (cwV 1 F.2.2.2.2 gX9_number_X9_byteAt rfl rfl rfl (by decide +kernel) ⟨Nat.le_of_ble_eq_true rfl, Nat.le_of_ble_eq_true rfl⟩) (rw_recv (q0 := 0) hK hW idM_0 rfl rfl) rfl hl.1 rfl (Nat.le_of_ble_eq_true rfl) dX9_number_27 (fun H locs hW hS => ?_)
      refine lv_i2l (v := r_6.toInt64) F.1 F.2.1 dX9_number_30 rfl ?_
      refine lv_ldc2 (v := 48) F.1 F.2.1 F.2.2.2.1 (F.2.2.2.2 _ lk_X9_number_211) dX9_number_31 ?_
      refine lv_ldc2 (v := 57) F.1 F.2.1 F.2.2.2.1 (F.2.2.2.2 _ lk_X9_number_213) dX9_number_34 ?_
      obtain ⟨r_9, S_10, hq_8, h⟩ := bi_some h
      refine rw_si F hK hW hS [.long r_6.toInt64, .long 48, .long 57] (rest := []) (c_X9_in l G A r_6.toInt64 48 57 S_7 (r_9, S_10) hq_8) (va_cwS 3 F.2.2.2.2 gX9_number_X9_in rfl rfl rfl (by decide +kernel) ⟨Nat.le_of_ble_eq_true rfl, Nat.le_of_ble_eq_true rfl⟩) rfl hl.1 rfl (Nat.le_of_ble_eq_true rfl) dX9_number_37 (fun H locs hW hS => ?_)
      refine lv_if_eq (tgt := 76) F.1 F.2.1 dX9_number_40 (by decide) (fun c_11 => ?_) (fun c_11 => ?_)
      · have h := (if_pos c_11).symm.trans h
        exact K76 _ _ _ _ _ _ _ _  hW hS hl h
      · have h := (if_neg c_11).symm.trans h
        refine lv_bipush (v := 10) F.1 F.2.1 dX9_number_43 (by decide) ?_
        refine lv_iload F.1 F.2.1 dX9_number_45 (lv_at hl 4 rfl) ?_
        refine lv_imul F.1 F.2.1 dX9_number_47 ?_
        refine lv_aload_n F.1 F.2.1 dX9_number_48 rfl (lv_at hl 0 rfl) ?_
        refine rw_get (q0 := 0) F hK hW idM_0 rfl rfl in_X9_number_X9 19 (by decide) lk_X9_number_53 rfl dX9_number_49 ?_
        refine lv_aload_n F.1 F.2.1 dX9_number_52 rfl (lv_at hl 0 rfl) ?_
        refine rw_get (q0 := 0) F hK hW idM_0 rfl rfl in_X9_number_X9 33 (by decide) lk_X9_number_202 rfl dX9_number_53 ?_
        obtain ⟨b_12, h⟩ := gd_some h
        refine rw_iald (q0 := 15) F hK hW idM_15 (fun _ => rfl) (ix_in b_12) dX9_number_56 ?_
        refine lv_topi (fun v_13 ev_13 => ?_)
        have h := lt_n ev_13 h
        refine lv_iadd F.1 F.2.1 dX9_number_57 ?_
        refine lv_bipush (v := 48) F.1 F.2.1 dX9_number_58 (by decide) ?_
        refine lv_isub F.1 F.2.1 dX9_number_60 ?_
        refine lv_topi (fun v_14 ev_14 => ?_)
        have h := lt_n ev_14 h
        refine lv_istore (lv' := [(4, .int v_14), (0, .ref (G.2.2 0 0)), (1, .int x1), (2, .int x2), (3, .int x3)]) F.1 F.2.1 dX9_number_61 hl (by decide) rfl (fun ls hl => ?_)
        refine lv_aload_n F.1 F.2.1 dX9_number_63 rfl (lv_at hl 1 rfl) ?_
        refine lv_dup F.1 F.2.1 dX9_number_64 rfl ?_
        refine rw_get (q0 := 0) F hK hW idM_0 rfl rfl in_X9_number_X9 33 (by decide) lk_X9_number_202 rfl dX9_number_65 ?_
        refine lv_iconst (v := 1) F.1 F.2.1 dX9_number_68 (by decide) ?_
        refine lv_iadd F.1 F.2.1 dX9_number_69 ?_
        refine rw_put ndM (q0 := 0) (x := (S_10 0 0 33) + 1) F hK hW hS idM_0 rfl rfl in_X9_number_X9 tyX9 tyX9_ok nmX9 33 (by decide) lk_X9_number_202 rfl (ty := .int) (by decide +kernel) rfl rfl (Nat.le_of_ble_eq_true rfl) rfl dX9_number_70 (fun H locs S_15 eS_15 hW hS => ?_)
        have h := lt_n eS_15 h
        refine lv_goto (tgt := 12) F.1 F.2.1 dX9_number_73 (by decide) ?_
        exact Kb _ _ _ _ _ _ _ _  hW hS (lv_sub hl [1, 2, 3, 4, 0] rfl) h
set_option maxHeartbeats 4000000 in
set_option maxRecDepth 100000 in
theorem w_X9_number_145 {p : Program} {l : Launch} {e : Env} {s : State} {m : MethodId} {args : Array Value} {below : List Frame} {meth : Method} {c : Code} {G : GT} {A : Nat → Prop} (F : CallFix p m c cX9_number 5 s args wsX9_number RX9) (hr : meth.sig.returnType = (some .int)) (hlk : meth.locks = false) (hK : va_K G.1 vwCl (tyl G) s) (out : Int32 × St) : ∀ (S : St) (x4 : Int32) (H : Heap) (locs : List Loc) (ls : Array Slot), Wd shM idsM G A S H → va_S A s.heap H locs → lv_has ls 5 [(4, .int x4)] → j_X9_number_145 S x4 = some out → W p l e rm_X9_number s m args below meth c H locs 0 0 (MQ below (QI shM idsM G A out) args s 0 0 A) (F0 m 145 ls []) := by
  intro S x4 H locs ls hW hS hl h
  unfold j_X9_number_145 at h
  refine lv_iload F.1 F.2.1 dX9_number_145 (lv_at hl 0 rfl) ?_
  exact rw_ret F hr hlk hK hW hS h dX9_number_147
set_option maxHeartbeats 4000000 in
set_option maxRecDepth 100000 in
theorem w_X9_number_76 {p : Program} {l : Launch} {e : Env} {s : State} {m : MethodId} {args : Array Value} {below : List Frame} {meth : Method} {c : Code} {G : GT} {A : Nat → Prop} (F : CallFix p m c cX9_number 5 s args wsX9_number RX9) (hr : meth.sig.returnType = (some .int)) (hlk : meth.locks = false) (hK : va_K G.1 vwCl (tyl G) s) (out : Int32 × St) : ∀ (S : St) (x1 : Int32) (x2 : Int32) (x3 : Int32) (x4 : Int32) (H : Heap) (locs : List Loc) (ls : Array Slot), Wd shM idsM G A S H → va_S A s.heap H locs → lv_has ls 5 [(0, .ref (G.2.2 0 0)), (1, .int x1), (2, .int x2), (3, .int x3), (4, .int x4)] → j_X9_number_76 S x1 x2 x3 x4 = some out → W p l e rm_X9_number s m args below meth c H locs 0 0 (MQ below (QI shM idsM G A out) args s 0 0 A) (F0 m 76 ls []) := by
  intro S x1 x2 x3 x4 H locs ls hW hS hl h
  unfold j_X9_number_76 at h
  refine lv_aload_n F.1 F.2.1 dX9_number_76 rfl (lv_at hl 0 rfl) ?_
  refine rw_get (q0 := 0) F hK hW idM_0 rfl rfl in_X9_number_X9 33 (by decide) lk_X9_number_202 rfl dX9_number_77 ?_
  refine lv_iload_n F.1 F.2.1 dX9_number_80 rfl (lv_at hl 3 rfl) ?_
  refine lv_icmp_ne (tgt := 93) F.1 F.2.1 dX9_number_81 (by decide) (fun c_16 => ?_) (fun c_16 => ?_)
  · have h := (if_neg c_16).symm.trans h
    refine lv_iload F.1 F.2.1 dX9_number_93 (lv_at hl 4 rfl) ?_
    refine lv_i2l (v := x4.toInt64) F.1 F.2.1 dX9_number_95 rfl ?_
    refine lv_iload_n F.1 F.2.1 dX9_number_96 rfl (lv_at hl 1 rfl) ?_
    refine lv_i2l (v := x1.toInt64) F.1 F.2.1 dX9_number_97 rfl ?_
    refine lv_iload_n F.1 F.2.1 dX9_number_98 rfl (lv_at hl 2 rfl) ?_
    refine lv_i2l (v := x2.toInt64) F.1 F.2.1 dX9_number_99 rfl ?_
    obtain ⟨r_18, S_19, hq_17, h⟩ := bi_some h
    refine rw_si F hK hW hS [.long x4.toInt64, .long x1.toInt64, .long x2.toInt64] (rest := []) (c_X9_in l G A x4.toInt64 x1.toInt64 x2.toInt64 S (r_18, S_19) hq_17) (va_cwS 3 F.2.2.2.2 gX9_number_X9_in rfl rfl rfl (by decide +kernel) ⟨Nat.le_of_ble_eq_true rfl, Nat.le_of_ble_eq_true rfl⟩) rfl hl.1 rfl (Nat.le_of_ble_eq_true rfl) dX9_number_100 (fun H locs hW hS => ?_)
    refine lv_if_ne (tgt := 115) F.1 F.2.1 dX9_number_103 (by decide) (fun c_20 => ?_) (fun c_20 => ?_)
    · have h := (if_neg c_20).symm.trans h
      refine lv_aload_n F.1 F.2.1 dX9_number_115 rfl (lv_at hl 0 rfl) ?_
      refine lv_aload_n F.1 F.2.1 dX9_number_116 rfl (lv_at hl 0 rfl) ?_
      refine rw_get (q0 := 0) F hK hW idM_0 rfl rfl in_X9_number_X9 33 (by decide) lk_X9_number_202 rfl dX9_number_117 ?_
      obtain ⟨r_22, S_23, hq_21, h⟩ := bi_some h
      refine rw_vi F hK hW hS [.int (S_19 0 0 33)] (rest := []) (c_X9_byteAt l G A (S_19 0 0 33) S_19 (r_22, S_23) hq_21) (cwV 1 F.2.2.2.2 gX9_number_X9_byteAt rfl rfl rfl (by decide +kernel) ⟨Nat.le_of_ble_eq_true rfl, Nat.le_of_ble_eq_true rfl⟩) (rw_recv (q0 := 0) hK hW idM_0 rfl rfl) rfl hl.1 rfl (Nat.le_of_ble_eq_true rfl) dX9_number_120 (fun H locs hW hS => ?_)
      refine lv_i2l (v := r_22.toInt64) F.1 F.2.1 dX9_number_123 rfl ?_
      refine lv_ldc2 (v := 48) F.1 F.2.1 F.2.2.2.1 (F.2.2.2.2 _ lk_X9_number_211) dX9_number_124 ?_
      refine lv_ldc2 (v := 57) F.1 F.2.1 F.2.2.2.1 (F.2.2.2.2 _ lk_X9_number_213) dX9_number_127 ?_
      obtain ⟨r_25, S_26, hq_24, h⟩ := bi_some h
      refine rw_si F hK hW hS [.long r_22.toInt64, .long 48, .long 57] (rest := []) (c_X9_in l G A r_22.toInt64 48 57 S_23 (r_25, S_26) hq_24) (va_cwS 3 F.2.2.2.2 gX9_number_X9_in rfl rfl rfl (by decide +kernel) ⟨Nat.le_of_ble_eq_true rfl, Nat.le_of_ble_eq_true rfl⟩) rfl hl.1 rfl (Nat.le_of_ble_eq_true rfl) dX9_number_130 (fun H locs hW hS => ?_)
      refine lv_if_eq (tgt := 145) F.1 F.2.1 dX9_number_133 (by decide) (fun c_27 => ?_) (fun c_27 => ?_)
      · have h := (if_pos c_27).symm.trans h
        exact w_X9_number_145 F hr hlk hK out  _ _ _ _ _  hW hS (lv_sub hl [4] rfl) h
      · have h := (if_neg c_27).symm.trans h
        refine lv_aload_n F.1 F.2.1 dX9_number_136 rfl (lv_at hl 0 rfl) ?_
        refine lv_iconst (v := 1) F.1 F.2.1 dX9_number_137 (by decide) ?_
        refine lv_aload_n F.1 F.2.1 dX9_number_138 rfl (lv_at hl 0 rfl) ?_
        refine rw_get (q0 := 0) F hK hW idM_0 rfl rfl in_X9_number_X9 33 (by decide) lk_X9_number_202 rfl dX9_number_139 ?_
        obtain ⟨q_28, hq_28, h⟩ := bv_some h
        refine rw_vv F hK hW hS [.int 1, .int (S_26 0 0 33)] (rest := []) (c_X9_wrong l G A 1 (S_26 0 0 33) S_26 q_28 hq_28) (cwV 2 F.2.2.2.2 gX9_number_X9_wrong rfl rfl rfl (by decide +kernel) ⟨Nat.le_of_ble_eq_true rfl, Nat.le_of_ble_eq_true rfl⟩) (rw_recv (q0 := 0) hK hW idM_0 rfl rfl) rfl hl.1 rfl (Nat.le_of_ble_eq_true rfl) dX9_number_142 (fun H locs hW hS => ?_)
        exact w_X9_number_145 F hr hlk hK out  _ _ _ _ _  hW hS (lv_sub hl [4] rfl) h
    · have h := (if_pos c_20).symm.trans h
      refine lv_aload_n F.1 F.2.1 dX9_number_106 rfl (lv_at hl 0 rfl) ?_
      refine lv_iconst (v := 2) F.1 F.2.1 dX9_number_107 (by decide) ?_
      refine lv_iload_n F.1 F.2.1 dX9_number_108 rfl (lv_at hl 3 rfl) ?_
      obtain ⟨q_30, hq_30, h⟩ := bv_some h
      refine rw_vv F hK hW hS [.int 2, .int x3] (rest := []) (c_X9_wrong l G A 2 x3 S_19 q_30 hq_30) (cwV 2 F.2.2.2.2 gX9_number_X9_wrong rfl rfl rfl (by decide +kernel) ⟨Nat.le_of_ble_eq_true rfl, Nat.le_of_ble_eq_true rfl⟩) (rw_recv (q0 := 0) hK hW idM_0 rfl rfl) rfl hl.1 rfl (Nat.le_of_ble_eq_true rfl) dX9_number_109 (fun H locs hW hS => ?_)
      refine lv_goto (tgt := 145) F.1 F.2.1 dX9_number_112 (by decide) ?_
      exact w_X9_number_145 F hr hlk hK out  _ _ _ _ _  hW hS (lv_sub hl [4] rfl) h
  · have h := (if_pos c_16).symm.trans h
    refine lv_aload_n F.1 F.2.1 dX9_number_84 rfl (lv_at hl 0 rfl) ?_
    refine lv_iconst (v := 1) F.1 F.2.1 dX9_number_85 (by decide) ?_
    refine lv_iload_n F.1 F.2.1 dX9_number_86 rfl (lv_at hl 3 rfl) ?_
    obtain ⟨q_32, hq_32, h⟩ := bv_some h
    refine rw_vv F hK hW hS [.int 1, .int x3] (rest := []) (c_X9_wrong l G A 1 x3 S q_32 hq_32) (cwV 2 F.2.2.2.2 gX9_number_X9_wrong rfl rfl rfl (by decide +kernel) ⟨Nat.le_of_ble_eq_true rfl, Nat.le_of_ble_eq_true rfl⟩) (rw_recv (q0 := 0) hK hW idM_0 rfl rfl) rfl hl.1 rfl (Nat.le_of_ble_eq_true rfl) dX9_number_87 (fun H locs hW hS => ?_)
    refine lv_goto (tgt := 145) F.1 F.2.1 dX9_number_90 (by decide) ?_
    exact w_X9_number_145 F hr hlk hK out  _ _ _ _ _  hW hS (lv_sub hl [4] rfl) h
set_option maxHeartbeats 4000000 in
set_option maxRecDepth 100000 in
theorem c_X9_number (l : Launch) (G : GT) (A : Nat → Prop) (a0 : Int32) (a1 : Int32) (S : St) (out : Int32 × St) (h : f_X9_number a0 a1 S = some out) : Met l yX9_number wsX9_number rm_X9_number (va_Pc [.ref (G.2.2 0 0), .int a0, .int a1] (WD shM idsM G A S)) (QI shM idsM G A out) 0 0 A := by
  refine Met.ofW (cc := cX9_number) (maxL := 5) (ret := (some .int)) (by decide) rfl ?_
  intro p e s m args below meth c s₁ B hml hv
  obtain ⟨rfl, hW, hK⟩ := hv
  have F : CallFix p m c cX9_number 5 s _ wsX9_number RX9 := ⟨B.exec, B.bytes, hml, findClass_of_methodNamed B.named, atoms_spec (ws := wsX9_number) B.pre⟩
  have hr := B.returns
  have hlk := B.notSynchronized
  have hS : va_S A s.heap s.heap [] := va_S.rf
  have hl := lv_entry ([.ref (G.2.2 0 0), .int a0, .int a1]) (n := 5) (Nat.le_of_ble_eq_true rfl)
  rw [lg_entry_eq]
  generalize (lg_sl ([.ref (G.2.2 0 0), .int a0, .int a1]) ++ List.replicate (5 - (lg_sl ([.ref (G.2.2 0 0), .int a0, .int a1])).length) Slot.unset).toArray = ls at hl ⊢
  have hl : lv_has ls 5 [(0, .ref (G.2.2 0 0)), (1, .int a0), (2, .int a1)] := hl
  unfold f_X9_number at h
  refine lv_aload_n F.1 F.2.1 dX9_number_0 rfl (lv_at hl 0 rfl) ?_
  obtain ⟨q_1, hq_1, h⟩ := bv_some h
  refine rw_vv F hK hW hS [] (rest := []) (c_X9_blanks l G A  S q_1 hq_1) (cwV 0 F.2.2.2.2 gX9_number_X9_blanks rfl rfl rfl (by decide +kernel) ⟨Nat.le_of_ble_eq_true rfl, Nat.le_of_ble_eq_true rfl⟩) (rw_recv (q0 := 0) hK hW idM_0 rfl rfl) rfl hl.1 rfl (Nat.le_of_ble_eq_true rfl) dX9_number_1 (fun H locs hW hS => ?_)
  refine lv_aload_n F.1 F.2.1 dX9_number_4 rfl (lv_at hl 0 rfl) ?_
  refine rw_get (q0 := 0) F hK hW idM_0 rfl rfl in_X9_number_X9 33 (by decide) lk_X9_number_202 rfl dX9_number_5 ?_
  refine lv_topi (fun v_3 ev_3 => ?_)
  have h := lt_n ev_3 h
  refine lv_istore_n (lv' := [(3, .int v_3), (0, .ref (G.2.2 0 0)), (1, .int a0), (2, .int a1)]) F.1 F.2.1 dX9_number_8 rfl hl (by decide) rfl (fun ls hl => ?_)
  refine lv_iconst (v := 0) F.1 F.2.1 dX9_number_9 (by decide) ?_
  refine lv_istore (lv' := [(4, .int 0), (3, .int v_3), (0, .ref (G.2.2 0 0)), (1, .int a0), (2, .int a1)]) F.1 F.2.1 dX9_number_10 hl (by decide) rfl (fun ls hl => ?_)
  refine w_X9_number_12 F hr hlk hK out _ ?_ 5000 _ _ _ _ _ _ _ _  hW hS (lv_sub hl [2, 3, 4, 1, 0] rfl) h
  · intro S x1 x2 x3 x4 H locs ls hW hS hl h
    exact w_X9_number_76 F hr hlk hK out  _ _ _ _ _ _ _ _  hW hS hl h
