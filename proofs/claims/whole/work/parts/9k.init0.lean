abbrev w1_X0 (_ : va_G) (cs : CS) (h0 : Nat) (u : Nat → Nat) : va_W := [(h0, .inr (0, [.ref (u 0), .int 0, .int 0, .int 0, .int 0, .int 0, .int 0])), (u 0, .inl (cs.1, 12, .inl (fun _ => 0)))]
abbrev rm_X0_init : Room := { frames := 1, cells := 1, slots := 12, locals := 12 }
theorem in_X0_init : ∀ w ∈ wsX00, w ∈ wsX0_init := by decide +kernel
set_option maxHeartbeats 4000000 in
set_option maxRecDepth 100000 in
theorem c_X0_init (l : Launch) (D : va_G) (cs : CS) (h0 : Nat) (sz : Nat) : Met l yX0_init wsX0_init rm_X0_init (va_Pc [.ref h0] (CI D cs [(h0, .inr (0, [.null, .int 0, .int 0, .int 0, .int 0, .int 0, .int 0]))] sz)) (CO D cs [(h0, .inr (0, [.null, .int 0, .int 0, .int 0, .int 0, .int 0, .int 0]))] sz (w1_X0 D cs h0)) 1 12 (va_A [(h0, .inr (0, [.null, .int 0, .int 0, .int 0, .int 0, .int 0, .int 0]))] sz) := by
  refine Met.ofW (cc := cX0_init) (maxL := 1) (ret := none) (by decide) rfl ?_
  intro p e s m args below meth c s₁ B hml hv
  obtain ⟨rfl, hsz, hP, hK, hD0, hN0⟩ := hv
  have F : CallFix p m c cX0_init 1 s _ wsX0_init RX0 := ⟨B.exec, B.bytes, hml, findClass_of_methodNamed B.named, atoms_spec (ws := wsX0_init) B.pre⟩
  have hr := B.returns
  have hlk := B.notSynchronized
  have hin : meth.name = "<init>" := (name_of_methodNamed B.named B.method).1
  subst hsz
  have hD := hD0.self (sz := s.heap.size)
  have hA : ∀ q : Nat, s.heap.size ≤ q → va_A [(h0, .inr (0, [.null, .int 0, .int 0, .int 0, .int 0, .int 0, .int 0]))] s.heap.size q := fun q h => Or.inr h
  have hS : va_S (va_A [(h0, .inr (0, [.null, .int 0, .int 0, .int 0, .int 0, .int 0, .int 0]))] s.heap.size) s.heap s.heap [] := va_S.rf
  have hl := lv_entry ([.ref h0]) (n := 1) (Nat.le_of_ble_eq_true rfl)
  rw [lg_entry_eq]
  generalize (lg_sl ([.ref h0]) ++ List.replicate (1 - (lg_sl ([.ref h0])).length) Slot.unset).toArray = ls at hl ⊢
  have hl : lv_has ls 1 [(0, .ref h0)] := hl
  obtain ⟨w0, e0⟩ : ∃ w : va_W, w = [] := ⟨_, rfl⟩
  have hP : va_P D vwCl ((h0, .inr (0, [.null, .int 0, .int 0, .int 0, .int 0, .int 0, .int 0])) :: w0) s.heap := by rw [e0]; exact hP
  have hD : va_D (va_A [(h0, .inr (0, [.null, .int 0, .int 0, .int 0, .int 0, .int 0, .int 0]))] s.heap.size) ((h0, .inr (0, [.null, .int 0, .int 0, .int 0, .int 0, .int 0, .int 0])) :: w0) := by rw [e0]; exact hD
  refine lv_aload_n F.1 F.2.1 dX0_init_0 rfl (lv_at hl 0 rfl) ?_
  refine W.objInit F.1 F.2.1 F.2.2.2.1 (F.2.2.2.2 (.methodLink RX0 3 objectInit) (by decide +kernel)) (F.2.2.2.2 (.instanceMethod objectInit) (by decide +kernel)) (F.2.2.2.2 (.code objectInit ⟨#[0xb1]⟩ 1 none) (by decide +kernel)) rfl (F.2.2.1 ▸ hl.1) rfl dX0_init_1 (Nat.le_of_ble_eq_true rfl) (Nat.le_of_ble_eq_true rfl) ?_
  refine W.eq (g2 := F0 m 4 ls []) rfl ?_
  refine lv_aload_n F.1 F.2.1 dX0_init_4 rfl (lv_at hl 0 rfl) ?_
  refine lv_bipush (v := 12) F.1 F.2.1 dX0_init_5 (by decide) ?_
  refine nw_int F (by decide +kernel) hK hP hD hS hA (N := 12) (by decide) (by decide) (by decide) 1 12 (by decide) (by decide) dX0_init_7 (fun q7 H hP hD hS => ?_)
  obtain ⟨w1, e1⟩ : ∃ w : va_W, w = w0 ++ [(q7, .inl (cs.1, 12, .inl (fun _ => 0)))] := ⟨_, rfl⟩
  have hP : va_P D vwCl ((h0, .inr (0, [.null, .int 0, .int 0, .int 0, .int 0, .int 0, .int 0])) :: w1) H := by rw [e1]; exact hP
  have hD : va_D (va_A [(h0, .inr (0, [.null, .int 0, .int 0, .int 0, .int 0, .int 0, .int 0]))] s.heap.size) ((h0, .inr (0, [.null, .int 0, .int 0, .int 0, .int 0, .int 0, .int 0])) :: w1) := by rw [e1]; exact hD
  refine va_putF (D := D) (ci := 0) (v := .ref q7) (ty := .array .int) (C := RX0) (T := TX0) (N := 7) (own := RX0) F.1 F.2.1 F.2.2.2.2 in_X0_init tyX0 tyX0_ok nmX0 F.2.2.2.1 hK hP hD hS 0 rfl rfl 0 (by decide) (F.2.2.2.2 (.fieldLink RX0 9 "CellCover$Cell" "symbol" "[I") (by decide +kernel)) (fun _ h9 => h9) rfl hin rfl (by decide +kernel) rfl rfl (Nat.le_of_ble_eq_true rfl) dX0_init_9 (fun H locs hP hD hS => ?_)
  have hP : va_P D vwCl ((h0, .inr (0, [.ref q7, .int 0, .int 0, .int 0, .int 0, .int 0, .int 0])) :: w1) H := hP
  have hD : va_D (va_A [(h0, .inr (0, [.null, .int 0, .int 0, .int 0, .int 0, .int 0, .int 0]))] s.heap.size) ((h0, .inr (0, [.ref q7, .int 0, .int 0, .int 0, .int 0, .int 0, .int 0])) :: w1) := hD
  refine lv_aload_n F.1 F.2.1 dX0_init_12 rfl (lv_at hl 0 rfl) ?_
  refine lv_iconst (v := 0) F.1 F.2.1 dX0_init_13 (by decide) ?_
  refine va_put (D := D) (ci := 0) (v := .int 0) (ty := .int) (C := RX0) (T := TX0) (N := 7) (own := RX0) F.1 F.2.1 F.2.2.2.2 in_X0_init tyX0 tyX0_ok nmX0 F.2.2.2.1 hK hP hD hS 0 rfl rfl 1 (by decide) (F.2.2.2.2 (.fieldLink RX0 15 "CellCover$Cell" "symbols" "I") (by decide +kernel)) (fun _ h9 => h9) rfl (by decide +kernel) rfl rfl (Nat.le_of_ble_eq_true rfl) dX0_init_14 (fun H locs hP hD hS => ?_)
  have hP : va_P D vwCl ((h0, .inr (0, [.ref q7, .int 0, .int 0, .int 0, .int 0, .int 0, .int 0])) :: w1) H := hP
  have hD : va_D (va_A [(h0, .inr (0, [.null, .int 0, .int 0, .int 0, .int 0, .int 0, .int 0]))] s.heap.size) ((h0, .inr (0, [.ref q7, .int 0, .int 0, .int 0, .int 0, .int 0, .int 0])) :: w1) := hD
  refine lv_aload_n F.1 F.2.1 dX0_init_17 rfl (lv_at hl 0 rfl) ?_
  refine lv_iconst (v := 0) F.1 F.2.1 dX0_init_18 (by decide) ?_
  refine va_put (D := D) (ci := 0) (v := .int 0) (ty := .int) (C := RX0) (T := TX0) (N := 7) (own := RX0) F.1 F.2.1 F.2.2.2.2 in_X0_init tyX0 tyX0_ok nmX0 F.2.2.2.1 hK hP hD hS 0 rfl rfl 2 (by decide) (F.2.2.2.2 (.fieldLink RX0 19 "CellCover$Cell" "nands" "I") (by decide +kernel)) (fun _ h9 => h9) rfl (by decide +kernel) rfl rfl (Nat.le_of_ble_eq_true rfl) dX0_init_19 (fun H locs hP hD hS => ?_)
  have hP : va_P D vwCl ((h0, .inr (0, [.ref q7, .int 0, .int 0, .int 0, .int 0, .int 0, .int 0])) :: w1) H := hP
  have hD : va_D (va_A [(h0, .inr (0, [.null, .int 0, .int 0, .int 0, .int 0, .int 0, .int 0]))] s.heap.size) ((h0, .inr (0, [.ref q7, .int 0, .int 0, .int 0, .int 0, .int 0, .int 0])) :: w1) := hD
  refine lv_aload_n F.1 F.2.1 dX0_init_22 rfl (lv_at hl 0 rfl) ?_
  refine lv_iconst (v := 0) F.1 F.2.1 dX0_init_23 (by decide) ?_
  refine va_put (D := D) (ci := 0) (v := .int 0) (ty := .int) (C := RX0) (T := TX0) (N := 7) (own := RX0) F.1 F.2.1 F.2.2.2.2 in_X0_init tyX0 tyX0_ok nmX0 F.2.2.2.1 hK hP hD hS 0 rfl rfl 3 (by decide) (F.2.2.2.2 (.fieldLink RX0 22 "CellCover$Cell" "pinBits" "I") (by decide +kernel)) (fun _ h9 => h9) rfl (by decide +kernel) rfl rfl (Nat.le_of_ble_eq_true rfl) dX0_init_24 (fun H locs hP hD hS => ?_)
  have hP : va_P D vwCl ((h0, .inr (0, [.ref q7, .int 0, .int 0, .int 0, .int 0, .int 0, .int 0])) :: w1) H := hP
  have hD : va_D (va_A [(h0, .inr (0, [.null, .int 0, .int 0, .int 0, .int 0, .int 0, .int 0]))] s.heap.size) ((h0, .inr (0, [.ref q7, .int 0, .int 0, .int 0, .int 0, .int 0, .int 0])) :: w1) := hD
  refine lv_aload_n F.1 F.2.1 dX0_init_27 rfl (lv_at hl 0 rfl) ?_
  refine lv_iconst (v := 0) F.1 F.2.1 dX0_init_28 (by decide) ?_
  refine va_put (D := D) (ci := 0) (v := .int 0) (ty := .int) (C := RX0) (T := TX0) (N := 7) (own := RX0) F.1 F.2.1 F.2.2.2.2 in_X0_init tyX0 tyX0_ok nmX0 F.2.2.2.1 hK hP hD hS 0 rfl rfl 4 (by decide) (F.2.2.2.2 (.fieldLink RX0 25 "CellCover$Cell" "area" "I") (by decide +kernel)) (fun _ h9 => h9) rfl (by decide +kernel) rfl rfl (Nat.le_of_ble_eq_true rfl) dX0_init_29 (fun H locs hP hD hS => ?_)
  have hP : va_P D vwCl ((h0, .inr (0, [.ref q7, .int 0, .int 0, .int 0, .int 0, .int 0, .int 0])) :: w1) H := hP
  have hD : va_D (va_A [(h0, .inr (0, [.null, .int 0, .int 0, .int 0, .int 0, .int 0, .int 0]))] s.heap.size) ((h0, .inr (0, [.ref q7, .int 0, .int 0, .int 0, .int 0, .int 0, .int 0])) :: w1) := hD
  refine lv_aload_n F.1 F.2.1 dX0_init_32 rfl (lv_at hl 0 rfl) ?_
  refine lv_iconst (v := 0) F.1 F.2.1 dX0_init_33 (by decide) ?_
  refine va_put (D := D) (ci := 0) (v := .int 0) (ty := .int) (C := RX0) (T := TX0) (N := 7) (own := RX0) F.1 F.2.1 F.2.2.2.2 in_X0_init tyX0 tyX0_ok nmX0 F.2.2.2.1 hK hP hD hS 0 rfl rfl 5 (by decide) (F.2.2.2.2 (.fieldLink RX0 28 "CellCover$Cell" "delay" "I") (by decide +kernel)) (fun _ h9 => h9) rfl (by decide +kernel) rfl rfl (Nat.le_of_ble_eq_true rfl) dX0_init_34 (fun H locs hP hD hS => ?_)
  have hP : va_P D vwCl ((h0, .inr (0, [.ref q7, .int 0, .int 0, .int 0, .int 0, .int 0, .int 0])) :: w1) H := hP
  have hD : va_D (va_A [(h0, .inr (0, [.null, .int 0, .int 0, .int 0, .int 0, .int 0, .int 0]))] s.heap.size) ((h0, .inr (0, [.ref q7, .int 0, .int 0, .int 0, .int 0, .int 0, .int 0])) :: w1) := hD
  refine lv_aload_n F.1 F.2.1 dX0_init_37 rfl (lv_at hl 0 rfl) ?_
  refine lv_iconst (v := 0) F.1 F.2.1 dX0_init_38 (by decide) ?_
  refine va_put (D := D) (ci := 0) (v := .int 0) (ty := .boolean) (C := RX0) (T := TX0) (N := 7) (own := RX0) F.1 F.2.1 F.2.2.2.2 in_X0_init tyX0 tyX0_ok nmX0 F.2.2.2.1 hK hP hD hS 0 rfl rfl 6 (by decide) (F.2.2.2.2 (.fieldLink RX0 31 "CellCover$Cell" "there" "Z") (by decide +kernel)) (fun _ h9 => h9) rfl (by decide +kernel) rfl rfl (Nat.le_of_ble_eq_true rfl) dX0_init_39 (fun H locs hP hD hS => ?_)
  have hP : va_P D vwCl ((h0, .inr (0, [.ref q7, .int 0, .int 0, .int 0, .int 0, .int 0, .int 0])) :: w1) H := hP
  have hD : va_D (va_A [(h0, .inr (0, [.null, .int 0, .int 0, .int 0, .int 0, .int 0, .int 0]))] s.heap.size) ((h0, .inr (0, [.ref q7, .int 0, .int 0, .int 0, .int 0, .int 0, .int 0])) :: w1) := hD
  subst e0 e1
  exact nw_ret F hr hlk hK (fun n => match n with | 0 => q7 | _ => 0) hP hD hS dX0_init_42 (by decide) (by decide)
abbrev w1_X2 (_ : va_G) (cs : CS) (h0 : Nat) (u : Nat → Nat) : va_W := [(h0, .inr (2, [.ref (u 0), .int 0])), (u 0, .inl (cs.1, 88, .inl (fun _ => 0)))]
abbrev rm_X2_init : Room := { frames := 1, cells := 1, slots := 88, locals := 12 }
theorem in_X2_init : ∀ w ∈ wsX20, w ∈ wsX2_init := by decide +kernel
set_option maxHeartbeats 4000000 in
set_option maxRecDepth 100000 in
theorem c_X2_init (l : Launch) (D : va_G) (cs : CS) (h0 : Nat) (sz : Nat) : Met l yX2_init wsX2_init rm_X2_init (va_Pc [.ref h0] (CI D cs [(h0, .inr (2, [.null, .int 0]))] sz)) (CO D cs [(h0, .inr (2, [.null, .int 0]))] sz (w1_X2 D cs h0)) 1 88 (va_A [(h0, .inr (2, [.null, .int 0]))] sz) := by
  refine Met.ofW (cc := cX2_init) (maxL := 1) (ret := none) (by decide) rfl ?_
  intro p e s m args below meth c s₁ B hml hv
  obtain ⟨rfl, hsz, hP, hK, hD0, hN0⟩ := hv
  have F : CallFix p m c cX2_init 1 s _ wsX2_init RX2 := ⟨B.exec, B.bytes, hml, findClass_of_methodNamed B.named, atoms_spec (ws := wsX2_init) B.pre⟩
  have hr := B.returns
  have hlk := B.notSynchronized
  have hin : meth.name = "<init>" := (name_of_methodNamed B.named B.method).1
  subst hsz
  have hD := hD0.self (sz := s.heap.size)
  have hA : ∀ q : Nat, s.heap.size ≤ q → va_A [(h0, .inr (2, [.null, .int 0]))] s.heap.size q := fun q h => Or.inr h
  have hS : va_S (va_A [(h0, .inr (2, [.null, .int 0]))] s.heap.size) s.heap s.heap [] := va_S.rf
  have hl := lv_entry ([.ref h0]) (n := 1) (Nat.le_of_ble_eq_true rfl)
  rw [lg_entry_eq]
  generalize (lg_sl ([.ref h0]) ++ List.replicate (1 - (lg_sl ([.ref h0])).length) Slot.unset).toArray = ls at hl ⊢
  have hl : lv_has ls 1 [(0, .ref h0)] := hl
  obtain ⟨w0, e0⟩ : ∃ w : va_W, w = [] := ⟨_, rfl⟩
  have hP : va_P D vwCl ((h0, .inr (2, [.null, .int 0])) :: w0) s.heap := by rw [e0]; exact hP
  have hD : va_D (va_A [(h0, .inr (2, [.null, .int 0]))] s.heap.size) ((h0, .inr (2, [.null, .int 0])) :: w0) := by rw [e0]; exact hD
  refine lv_aload_n F.1 F.2.1 dX2_init_0 rfl (lv_at hl 0 rfl) ?_
  refine W.objInit F.1 F.2.1 F.2.2.2.1 (F.2.2.2.2 (.methodLink RX2 3 objectInit) (by decide +kernel)) (F.2.2.2.2 (.instanceMethod objectInit) (by decide +kernel)) (F.2.2.2.2 (.code objectInit ⟨#[0xb1]⟩ 1 none) (by decide +kernel)) rfl (F.2.2.1 ▸ hl.1) rfl dX2_init_1 (Nat.le_of_ble_eq_true rfl) (Nat.le_of_ble_eq_true rfl) ?_
  refine W.eq (g2 := F0 m 4 ls []) rfl ?_
  refine lv_aload_n F.1 F.2.1 dX2_init_4 rfl (lv_at hl 0 rfl) ?_
  refine lv_bipush (v := 88) F.1 F.2.1 dX2_init_5 (by decide) ?_
  refine nw_int F (by decide +kernel) hK hP hD hS hA (N := 88) (by decide) (by decide) (by decide) 1 88 (by decide) (by decide) dX2_init_7 (fun q7 H hP hD hS => ?_)
  obtain ⟨w1, e1⟩ : ∃ w : va_W, w = w0 ++ [(q7, .inl (cs.1, 88, .inl (fun _ => 0)))] := ⟨_, rfl⟩
  have hP : va_P D vwCl ((h0, .inr (2, [.null, .int 0])) :: w1) H := by rw [e1]; exact hP
  have hD : va_D (va_A [(h0, .inr (2, [.null, .int 0]))] s.heap.size) ((h0, .inr (2, [.null, .int 0])) :: w1) := by rw [e1]; exact hD
  refine va_putF (D := D) (ci := 2) (v := .ref q7) (ty := .array .int) (C := RX2) (T := TX2) (N := 2) (own := RX2) F.1 F.2.1 F.2.2.2.2 in_X2_init tyX2 tyX2_ok nmX2 F.2.2.2.1 hK hP hD hS 0 rfl rfl 0 (by decide) (F.2.2.2.2 (.fieldLink RX2 9 "CellCover$History" "steps" "[I") (by decide +kernel)) (fun _ h9 => h9) rfl hin rfl (by decide +kernel) rfl rfl (Nat.le_of_ble_eq_true rfl) dX2_init_9 (fun H locs hP hD hS => ?_)
  have hP : va_P D vwCl ((h0, .inr (2, [.ref q7, .int 0])) :: w1) H := hP
  have hD : va_D (va_A [(h0, .inr (2, [.null, .int 0]))] s.heap.size) ((h0, .inr (2, [.ref q7, .int 0])) :: w1) := hD
  refine lv_aload_n F.1 F.2.1 dX2_init_12 rfl (lv_at hl 0 rfl) ?_
  refine lv_iconst (v := 0) F.1 F.2.1 dX2_init_13 (by decide) ?_
  refine va_put (D := D) (ci := 2) (v := .int 0) (ty := .int) (C := RX2) (T := TX2) (N := 2) (own := RX2) F.1 F.2.1 F.2.2.2.2 in_X2_init tyX2 tyX2_ok nmX2 F.2.2.2.1 hK hP hD hS 0 rfl rfl 1 (by decide) (F.2.2.2.2 (.fieldLink RX2 15 "CellCover$History" "many" "I") (by decide +kernel)) (fun _ h9 => h9) rfl (by decide +kernel) rfl rfl (Nat.le_of_ble_eq_true rfl) dX2_init_14 (fun H locs hP hD hS => ?_)
  have hP : va_P D vwCl ((h0, .inr (2, [.ref q7, .int 0])) :: w1) H := hP
  have hD : va_D (va_A [(h0, .inr (2, [.null, .int 0]))] s.heap.size) ((h0, .inr (2, [.ref q7, .int 0])) :: w1) := hD
  subst e0 e1
  exact nw_ret F hr hlk hK (fun n => match n with | 0 => q7 | _ => 0) hP hD hS dX2_init_17 (by decide) (by decide)
abbrev w1_X6 (_ : va_G) (cs : CS) (h0 : Nat) (u : Nat → Nat) : va_W := [(h0, .inr (6, [.ref (u 0), .int 0, .int 0, .int 0])), (u 0, .inl (cs.1, 60, .inl (fun _ => 0)))]
abbrev rm_X6_init : Room := { frames := 1, cells := 1, slots := 60, locals := 12 }
theorem in_X6_init : ∀ w ∈ wsX60, w ∈ wsX6_init := by decide +kernel
set_option maxHeartbeats 4000000 in
set_option maxRecDepth 100000 in
theorem c_X6_init (l : Launch) (D : va_G) (cs : CS) (h0 : Nat) (sz : Nat) : Met l yX6_init wsX6_init rm_X6_init (va_Pc [.ref h0] (CI D cs [(h0, .inr (6, [.null, .int 0, .int 0, .int 0]))] sz)) (CO D cs [(h0, .inr (6, [.null, .int 0, .int 0, .int 0]))] sz (w1_X6 D cs h0)) 1 60 (va_A [(h0, .inr (6, [.null, .int 0, .int 0, .int 0]))] sz) := by
  refine Met.ofW (cc := cX6_init) (maxL := 1) (ret := none) (by decide) rfl ?_
  intro p e s m args below meth c s₁ B hml hv
  obtain ⟨rfl, hsz, hP, hK, hD0, hN0⟩ := hv
  have F : CallFix p m c cX6_init 1 s _ wsX6_init RX6 := ⟨B.exec, B.bytes, hml, findClass_of_methodNamed B.named, atoms_spec (ws := wsX6_init) B.pre⟩
  have hr := B.returns
  have hlk := B.notSynchronized
  have hin : meth.name = "<init>" := (name_of_methodNamed B.named B.method).1
  subst hsz
  have hD := hD0.self (sz := s.heap.size)
  have hA : ∀ q : Nat, s.heap.size ≤ q → va_A [(h0, .inr (6, [.null, .int 0, .int 0, .int 0]))] s.heap.size q := fun q h => Or.inr h
  have hS : va_S (va_A [(h0, .inr (6, [.null, .int 0, .int 0, .int 0]))] s.heap.size) s.heap s.heap [] := va_S.rf
  have hl := lv_entry ([.ref h0]) (n := 1) (Nat.le_of_ble_eq_true rfl)
  rw [lg_entry_eq]
  generalize (lg_sl ([.ref h0]) ++ List.replicate (1 - (lg_sl ([.ref h0])).length) Slot.unset).toArray = ls at hl ⊢
  have hl : lv_has ls 1 [(0, .ref h0)] := hl
  obtain ⟨w0, e0⟩ : ∃ w : va_W, w = [] := ⟨_, rfl⟩
  have hP : va_P D vwCl ((h0, .inr (6, [.null, .int 0, .int 0, .int 0])) :: w0) s.heap := by rw [e0]; exact hP
  have hD : va_D (va_A [(h0, .inr (6, [.null, .int 0, .int 0, .int 0]))] s.heap.size) ((h0, .inr (6, [.null, .int 0, .int 0, .int 0])) :: w0) := by rw [e0]; exact hD
  refine lv_aload_n F.1 F.2.1 dX6_init_0 rfl (lv_at hl 0 rfl) ?_
  refine W.objInit F.1 F.2.1 F.2.2.2.1 (F.2.2.2.2 (.methodLink RX6 3 objectInit) (by decide +kernel)) (F.2.2.2.2 (.instanceMethod objectInit) (by decide +kernel)) (F.2.2.2.2 (.code objectInit ⟨#[0xb1]⟩ 1 none) (by decide +kernel)) rfl (F.2.2.1 ▸ hl.1) rfl dX6_init_1 (Nat.le_of_ble_eq_true rfl) (Nat.le_of_ble_eq_true rfl) ?_
  refine W.eq (g2 := F0 m 4 ls []) rfl ?_
  refine lv_aload_n F.1 F.2.1 dX6_init_4 rfl (lv_at hl 0 rfl) ?_
  refine lv_bipush (v := 60) F.1 F.2.1 dX6_init_5 (by decide) ?_
  refine nw_int F (by decide +kernel) hK hP hD hS hA (N := 60) (by decide) (by decide) (by decide) 1 60 (by decide) (by decide) dX6_init_7 (fun q7 H hP hD hS => ?_)
  obtain ⟨w1, e1⟩ : ∃ w : va_W, w = w0 ++ [(q7, .inl (cs.1, 60, .inl (fun _ => 0)))] := ⟨_, rfl⟩
  have hP : va_P D vwCl ((h0, .inr (6, [.null, .int 0, .int 0, .int 0])) :: w1) H := by rw [e1]; exact hP
  have hD : va_D (va_A [(h0, .inr (6, [.null, .int 0, .int 0, .int 0]))] s.heap.size) ((h0, .inr (6, [.null, .int 0, .int 0, .int 0])) :: w1) := by rw [e1]; exact hD
  refine va_putF (D := D) (ci := 6) (v := .ref q7) (ty := .array .int) (C := RX6) (T := TX6) (N := 4) (own := RX6) F.1 F.2.1 F.2.2.2.2 in_X6_init tyX6 tyX6_ok nmX6 F.2.2.2.1 hK hP hD hS 0 rfl rfl 0 (by decide) (F.2.2.2.2 (.fieldLink RX6 9 "CellCover$Tape" "bytes" "[I") (by decide +kernel)) (fun _ h9 => h9) rfl hin rfl (by decide +kernel) rfl rfl (Nat.le_of_ble_eq_true rfl) dX6_init_9 (fun H locs hP hD hS => ?_)
  have hP : va_P D vwCl ((h0, .inr (6, [.ref q7, .int 0, .int 0, .int 0])) :: w1) H := hP
  have hD : va_D (va_A [(h0, .inr (6, [.null, .int 0, .int 0, .int 0]))] s.heap.size) ((h0, .inr (6, [.ref q7, .int 0, .int 0, .int 0])) :: w1) := hD
  refine lv_aload_n F.1 F.2.1 dX6_init_12 rfl (lv_at hl 0 rfl) ?_
  refine lv_iconst (v := 0) F.1 F.2.1 dX6_init_13 (by decide) ?_
  refine va_put (D := D) (ci := 6) (v := .int 0) (ty := .int) (C := RX6) (T := TX6) (N := 4) (own := RX6) F.1 F.2.1 F.2.2.2.2 in_X6_init tyX6 tyX6_ok nmX6 F.2.2.2.1 hK hP hD hS 0 rfl rfl 1 (by decide) (F.2.2.2.2 (.fieldLink RX6 15 "CellCover$Tape" "length" "I") (by decide +kernel)) (fun _ h9 => h9) rfl (by decide +kernel) rfl rfl (Nat.le_of_ble_eq_true rfl) dX6_init_14 (fun H locs hP hD hS => ?_)
  have hP : va_P D vwCl ((h0, .inr (6, [.ref q7, .int 0, .int 0, .int 0])) :: w1) H := hP
  have hD : va_D (va_A [(h0, .inr (6, [.null, .int 0, .int 0, .int 0]))] s.heap.size) ((h0, .inr (6, [.ref q7, .int 0, .int 0, .int 0])) :: w1) := hD
  refine lv_aload_n F.1 F.2.1 dX6_init_17 rfl (lv_at hl 0 rfl) ?_
  refine lv_iconst (v := 0) F.1 F.2.1 dX6_init_18 (by decide) ?_
  refine va_put (D := D) (ci := 6) (v := .int 0) (ty := .int) (C := RX6) (T := TX6) (N := 4) (own := RX6) F.1 F.2.1 F.2.2.2.2 in_X6_init tyX6 tyX6_ok nmX6 F.2.2.2.1 hK hP hD hS 0 rfl rfl 2 (by decide) (F.2.2.2.2 (.fieldLink RX6 19 "CellCover$Tape" "place" "I") (by decide +kernel)) (fun _ h9 => h9) rfl (by decide +kernel) rfl rfl (Nat.le_of_ble_eq_true rfl) dX6_init_19 (fun H locs hP hD hS => ?_)
  have hP : va_P D vwCl ((h0, .inr (6, [.ref q7, .int 0, .int 0, .int 0])) :: w1) H := hP
  have hD : va_D (va_A [(h0, .inr (6, [.null, .int 0, .int 0, .int 0]))] s.heap.size) ((h0, .inr (6, [.ref q7, .int 0, .int 0, .int 0])) :: w1) := hD
  refine lv_aload_n F.1 F.2.1 dX6_init_22 rfl (lv_at hl 0 rfl) ?_
  refine lv_iconst (v := 0) F.1 F.2.1 dX6_init_23 (by decide) ?_
  refine va_put (D := D) (ci := 6) (v := .int 0) (ty := .int) (C := RX6) (T := TX6) (N := 4) (own := RX6) F.1 F.2.1 F.2.2.2.2 in_X6_init tyX6 tyX6_ok nmX6 F.2.2.2.1 hK hP hD hS 0 rfl rfl 3 (by decide) (F.2.2.2.2 (.fieldLink RX6 22 "CellCover$Tape" "fault" "I") (by decide +kernel)) (fun _ h9 => h9) rfl (by decide +kernel) rfl rfl (Nat.le_of_ble_eq_true rfl) dX6_init_24 (fun H locs hP hD hS => ?_)
  have hP : va_P D vwCl ((h0, .inr (6, [.ref q7, .int 0, .int 0, .int 0])) :: w1) H := hP
  have hD : va_D (va_A [(h0, .inr (6, [.null, .int 0, .int 0, .int 0]))] s.heap.size) ((h0, .inr (6, [.ref q7, .int 0, .int 0, .int 0])) :: w1) := hD
  subst e0 e1
  exact nw_ret F hr hlk hK (fun n => match n with | 0 => q7 | _ => 0) hP hD hS dX6_init_27 (by decide) (by decide)
abbrev w1_X5 (_ : va_G) (cs : CS) (h0 : Nat) (u : Nat → Nat) : va_W := [(h0, .inr (5, [.ref (u 0), .ref (u 1), .ref (u 2), .ref (u 3), .ref (u 4), .ref (u 5), .ref (u 6), .ref (u 7), .int 0, .int 0, .int 0])), (u 0, .inl (cs.1, 40, .inl (fun _ => 0))), (u 1, .inl (cs.1, 40, .inl (fun _ => 0))), (u 2, .inl (cs.1, 40, .inl (fun _ => 0))), (u 3, .inl (cs.1, 40, .inl (fun _ => 0))), (u 4, .inl (cs.1, 40, .inl (fun _ => 0))), (u 5, .inl (cs.1, 8, .inl (fun _ => 0))), (u 6, .inl (cs.1, 40, .inl (fun _ => 0))), (u 7, .inl (cs.1, 40, .inl (fun _ => 0)))]
abbrev rm_X5_init : Room := { frames := 1, cells := 8, slots := 288, locals := 12 }
theorem in_X5_init : ∀ w ∈ wsX50, w ∈ wsX5_init := by decide +kernel
set_option maxHeartbeats 4000000 in
set_option maxRecDepth 100000 in
theorem c_X5_init (l : Launch) (D : va_G) (cs : CS) (h0 : Nat) (sz : Nat) : Met l yX5_init wsX5_init rm_X5_init (va_Pc [.ref h0] (CI D cs [(h0, .inr (5, [.null, .null, .null, .null, .null, .null, .null, .null, .int 0, .int 0, .int 0]))] sz)) (CO D cs [(h0, .inr (5, [.null, .null, .null, .null, .null, .null, .null, .null, .int 0, .int 0, .int 0]))] sz (w1_X5 D cs h0)) 8 288 (va_A [(h0, .inr (5, [.null, .null, .null, .null, .null, .null, .null, .null, .int 0, .int 0, .int 0]))] sz) := by
  refine Met.ofW (cc := cX5_init) (maxL := 1) (ret := none) (by decide) rfl ?_
  intro p e s m args below meth c s₁ B hml hv
  obtain ⟨rfl, hsz, hP, hK, hD0, hN0⟩ := hv
  have F : CallFix p m c cX5_init 1 s _ wsX5_init RX5 := ⟨B.exec, B.bytes, hml, findClass_of_methodNamed B.named, atoms_spec (ws := wsX5_init) B.pre⟩
  have hr := B.returns
  have hlk := B.notSynchronized
  have hin : meth.name = "<init>" := (name_of_methodNamed B.named B.method).1
  subst hsz
  have hD := hD0.self (sz := s.heap.size)
  have hA : ∀ q : Nat, s.heap.size ≤ q → va_A [(h0, .inr (5, [.null, .null, .null, .null, .null, .null, .null, .null, .int 0, .int 0, .int 0]))] s.heap.size q := fun q h => Or.inr h
  have hS : va_S (va_A [(h0, .inr (5, [.null, .null, .null, .null, .null, .null, .null, .null, .int 0, .int 0, .int 0]))] s.heap.size) s.heap s.heap [] := va_S.rf
  have hl := lv_entry ([.ref h0]) (n := 1) (Nat.le_of_ble_eq_true rfl)
  rw [lg_entry_eq]
  generalize (lg_sl ([.ref h0]) ++ List.replicate (1 - (lg_sl ([.ref h0])).length) Slot.unset).toArray = ls at hl ⊢
  have hl : lv_has ls 1 [(0, .ref h0)] := hl
  obtain ⟨w0, e0⟩ : ∃ w : va_W, w = [] := ⟨_, rfl⟩
  have hP : va_P D vwCl ((h0, .inr (5, [.null, .null, .null, .null, .null, .null, .null, .null, .int 0, .int 0, .int 0])) :: w0) s.heap := by rw [e0]; exact hP
  have hD : va_D (va_A [(h0, .inr (5, [.null, .null, .null, .null, .null, .null, .null, .null, .int 0, .int 0, .int 0]))] s.heap.size) ((h0, .inr (5, [.null, .null, .null, .null, .null, .null, .null, .null, .int 0, .int 0, .int 0])) :: w0) := by rw [e0]; exact hD
  refine lv_aload_n F.1 F.2.1 dX5_init_0 rfl (lv_at hl 0 rfl) ?_
  refine W.objInit F.1 F.2.1 F.2.2.2.1 (F.2.2.2.2 (.methodLink RX5 3 objectInit) (by decide +kernel)) (F.2.2.2.2 (.instanceMethod objectInit) (by decide +kernel)) (F.2.2.2.2 (.code objectInit ⟨#[0xb1]⟩ 1 none) (by decide +kernel)) rfl (F.2.2.1 ▸ hl.1) rfl dX5_init_1 (Nat.le_of_ble_eq_true rfl) (Nat.le_of_ble_eq_true rfl) ?_
  refine W.eq (g2 := F0 m 4 ls []) rfl ?_
  refine lv_aload_n F.1 F.2.1 dX5_init_4 rfl (lv_at hl 0 rfl) ?_
  refine lv_bipush (v := 40) F.1 F.2.1 dX5_init_5 (by decide) ?_
  refine nw_int F (by decide +kernel) hK hP hD hS hA (N := 40) (by decide) (by decide) (by decide) 1 40 (by decide) (by decide) dX5_init_7 (fun q7 H hP hD hS => ?_)
  obtain ⟨w1, e1⟩ : ∃ w : va_W, w = w0 ++ [(q7, .inl (cs.1, 40, .inl (fun _ => 0)))] := ⟨_, rfl⟩
  have hP : va_P D vwCl ((h0, .inr (5, [.null, .null, .null, .null, .null, .null, .null, .null, .int 0, .int 0, .int 0])) :: w1) H := by rw [e1]; exact hP
  have hD : va_D (va_A [(h0, .inr (5, [.null, .null, .null, .null, .null, .null, .null, .null, .int 0, .int 0, .int 0]))] s.heap.size) ((h0, .inr (5, [.null, .null, .null, .null, .null, .null, .null, .null, .int 0, .int 0, .int 0])) :: w1) := by rw [e1]; exact hD
  refine va_putF (D := D) (ci := 5) (v := .ref q7) (ty := .array .int) (C := RX5) (T := TX5) (N := 11) (own := RX5) F.1 F.2.1 F.2.2.2.2 in_X5_init tyX5 tyX5_ok nmX5 F.2.2.2.1 hK hP hD hS 0 rfl rfl 0 (by decide) (F.2.2.2.2 (.fieldLink RX5 9 "CellCover$Net" "kind" "[I") (by decide +kernel)) (fun _ h9 => h9) rfl hin rfl (by decide +kernel) rfl rfl (Nat.le_of_ble_eq_true rfl) dX5_init_9 (fun H locs hP hD hS => ?_)
  have hP : va_P D vwCl ((h0, .inr (5, [.ref q7, .null, .null, .null, .null, .null, .null, .null, .int 0, .int 0, .int 0])) :: w1) H := hP
  have hD : va_D (va_A [(h0, .inr (5, [.null, .null, .null, .null, .null, .null, .null, .null, .int 0, .int 0, .int 0]))] s.heap.size) ((h0, .inr (5, [.ref q7, .null, .null, .null, .null, .null, .null, .null, .int 0, .int 0, .int 0])) :: w1) := hD
  refine lv_aload_n F.1 F.2.1 dX5_init_12 rfl (lv_at hl 0 rfl) ?_
  refine lv_bipush (v := 40) F.1 F.2.1 dX5_init_13 (by decide) ?_
  refine nw_int F (by decide +kernel) hK hP hD hS hA (N := 40) (by decide) (by decide) (by decide) 2 80 (by decide) (by decide) dX5_init_15 (fun q15 H hP hD hS => ?_)
  obtain ⟨w2, e2⟩ : ∃ w : va_W, w = w1 ++ [(q15, .inl (cs.1, 40, .inl (fun _ => 0)))] := ⟨_, rfl⟩
  have hP : va_P D vwCl ((h0, .inr (5, [.ref q7, .null, .null, .null, .null, .null, .null, .null, .int 0, .int 0, .int 0])) :: w2) H := by rw [e2]; exact hP
  have hD : va_D (va_A [(h0, .inr (5, [.null, .null, .null, .null, .null, .null, .null, .null, .int 0, .int 0, .int 0]))] s.heap.size) ((h0, .inr (5, [.ref q7, .null, .null, .null, .null, .null, .null, .null, .int 0, .int 0, .int 0])) :: w2) := by rw [e2]; exact hD
  refine va_putF (D := D) (ci := 5) (v := .ref q15) (ty := .array .int) (C := RX5) (T := TX5) (N := 11) (own := RX5) F.1 F.2.1 F.2.2.2.2 in_X5_init tyX5 tyX5_ok nmX5 F.2.2.2.1 hK hP hD hS 0 rfl rfl 1 (by decide) (F.2.2.2.2 (.fieldLink RX5 15 "CellCover$Net" "partA" "[I") (by decide +kernel)) (fun _ h9 => h9) rfl hin rfl (by decide +kernel) rfl rfl (Nat.le_of_ble_eq_true rfl) dX5_init_17 (fun H locs hP hD hS => ?_)
  have hP : va_P D vwCl ((h0, .inr (5, [.ref q7, .ref q15, .null, .null, .null, .null, .null, .null, .int 0, .int 0, .int 0])) :: w2) H := hP
  have hD : va_D (va_A [(h0, .inr (5, [.null, .null, .null, .null, .null, .null, .null, .null, .int 0, .int 0, .int 0]))] s.heap.size) ((h0, .inr (5, [.ref q7, .ref q15, .null, .null, .null, .null, .null, .null, .int 0, .int 0, .int 0])) :: w2) := hD
  refine lv_aload_n F.1 F.2.1 dX5_init_20 rfl (lv_at hl 0 rfl) ?_
  refine lv_bipush (v := 40) F.1 F.2.1 dX5_init_21 (by decide) ?_
  refine nw_int F (by decide +kernel) hK hP hD hS hA (N := 40) (by decide) (by decide) (by decide) 3 120 (by decide) (by decide) dX5_init_23 (fun q23 H hP hD hS => ?_)
  obtain ⟨w3, e3⟩ : ∃ w : va_W, w = w2 ++ [(q23, .inl (cs.1, 40, .inl (fun _ => 0)))] := ⟨_, rfl⟩
  have hP : va_P D vwCl ((h0, .inr (5, [.ref q7, .ref q15, .null, .null, .null, .null, .null, .null, .int 0, .int 0, .int 0])) :: w3) H := by rw [e3]; exact hP
  have hD : va_D (va_A [(h0, .inr (5, [.null, .null, .null, .null, .null, .null, .null, .null, .int 0, .int 0, .int 0]))] s.heap.size) ((h0, .inr (5, [.ref q7, .ref q15, .null, .null, .null, .null, .null, .null, .int 0, .int 0, .int 0])) :: w3) := by rw [e3]; exact hD
  refine va_putF (D := D) (ci := 5) (v := .ref q23) (ty := .array .int) (C := RX5) (T := TX5) (N := 11) (own := RX5) F.1 F.2.1 F.2.2.2.2 in_X5_init tyX5 tyX5_ok nmX5 F.2.2.2.1 hK hP hD hS 0 rfl rfl 2 (by decide) (F.2.2.2.2 (.fieldLink RX5 18 "CellCover$Net" "partB" "[I") (by decide +kernel)) (fun _ h9 => h9) rfl hin rfl (by decide +kernel) rfl rfl (Nat.le_of_ble_eq_true rfl) dX5_init_25 (fun H locs hP hD hS => ?_)
  have hP : va_P D vwCl ((h0, .inr (5, [.ref q7, .ref q15, .ref q23, .null, .null, .null, .null, .null, .int 0, .int 0, .int 0])) :: w3) H := hP
  have hD : va_D (va_A [(h0, .inr (5, [.null, .null, .null, .null, .null, .null, .null, .null, .int 0, .int 0, .int 0]))] s.heap.size) ((h0, .inr (5, [.ref q7, .ref q15, .ref q23, .null, .null, .null, .null, .null, .int 0, .int 0, .int 0])) :: w3) := hD
  refine lv_aload_n F.1 F.2.1 dX5_init_28 rfl (lv_at hl 0 rfl) ?_
  refine lv_bipush (v := 40) F.1 F.2.1 dX5_init_29 (by decide) ?_
  refine nw_int F (by decide +kernel) hK hP hD hS hA (N := 40) (by decide) (by decide) (by decide) 4 160 (by decide) (by decide) dX5_init_31 (fun q31 H hP hD hS => ?_)
  obtain ⟨w4, e4⟩ : ∃ w : va_W, w = w3 ++ [(q31, .inl (cs.1, 40, .inl (fun _ => 0)))] := ⟨_, rfl⟩
  have hP : va_P D vwCl ((h0, .inr (5, [.ref q7, .ref q15, .ref q23, .null, .null, .null, .null, .null, .int 0, .int 0, .int 0])) :: w4) H := by rw [e4]; exact hP
  have hD : va_D (va_A [(h0, .inr (5, [.null, .null, .null, .null, .null, .null, .null, .null, .int 0, .int 0, .int 0]))] s.heap.size) ((h0, .inr (5, [.ref q7, .ref q15, .ref q23, .null, .null, .null, .null, .null, .int 0, .int 0, .int 0])) :: w4) := by rw [e4]; exact hD
  refine va_putF (D := D) (ci := 5) (v := .ref q31) (ty := .array .int) (C := RX5) (T := TX5) (N := 11) (own := RX5) F.1 F.2.1 F.2.2.2.2 in_X5_init tyX5 tyX5_ok nmX5 F.2.2.2.1 hK hP hD hS 0 rfl rfl 3 (by decide) (F.2.2.2.2 (.fieldLink RX5 21 "CellCover$Net" "partC" "[I") (by decide +kernel)) (fun _ h9 => h9) rfl hin rfl (by decide +kernel) rfl rfl (Nat.le_of_ble_eq_true rfl) dX5_init_33 (fun H locs hP hD hS => ?_)
  have hP : va_P D vwCl ((h0, .inr (5, [.ref q7, .ref q15, .ref q23, .ref q31, .null, .null, .null, .null, .int 0, .int 0, .int 0])) :: w4) H := hP
  have hD : va_D (va_A [(h0, .inr (5, [.null, .null, .null, .null, .null, .null, .null, .null, .int 0, .int 0, .int 0]))] s.heap.size) ((h0, .inr (5, [.ref q7, .ref q15, .ref q23, .ref q31, .null, .null, .null, .null, .int 0, .int 0, .int 0])) :: w4) := hD
  refine lv_aload_n F.1 F.2.1 dX5_init_36 rfl (lv_at hl 0 rfl) ?_
  refine lv_bipush (v := 40) F.1 F.2.1 dX5_init_37 (by decide) ?_
  refine nw_int F (by decide +kernel) hK hP hD hS hA (N := 40) (by decide) (by decide) (by decide) 5 200 (by decide) (by decide) dX5_init_39 (fun q39 H hP hD hS => ?_)
  obtain ⟨w5, e5⟩ : ∃ w : va_W, w = w4 ++ [(q39, .inl (cs.1, 40, .inl (fun _ => 0)))] := ⟨_, rfl⟩
  have hP : va_P D vwCl ((h0, .inr (5, [.ref q7, .ref q15, .ref q23, .ref q31, .null, .null, .null, .null, .int 0, .int 0, .int 0])) :: w5) H := by rw [e5]; exact hP
  have hD : va_D (va_A [(h0, .inr (5, [.null, .null, .null, .null, .null, .null, .null, .null, .int 0, .int 0, .int 0]))] s.heap.size) ((h0, .inr (5, [.ref q7, .ref q15, .ref q23, .ref q31, .null, .null, .null, .null, .int 0, .int 0, .int 0])) :: w5) := by rw [e5]; exact hD
  refine va_putF (D := D) (ci := 5) (v := .ref q39) (ty := .array .int) (C := RX5) (T := TX5) (N := 11) (own := RX5) F.1 F.2.1 F.2.2.2.2 in_X5_init tyX5 tyX5_ok nmX5 F.2.2.2.1 hK hP hD hS 0 rfl rfl 4 (by decide) (F.2.2.2.2 (.fieldLink RX5 24 "CellCover$Net" "value" "[I") (by decide +kernel)) (fun _ h9 => h9) rfl hin rfl (by decide +kernel) rfl rfl (Nat.le_of_ble_eq_true rfl) dX5_init_41 (fun H locs hP hD hS => ?_)
  have hP : va_P D vwCl ((h0, .inr (5, [.ref q7, .ref q15, .ref q23, .ref q31, .ref q39, .null, .null, .null, .int 0, .int 0, .int 0])) :: w5) H := hP
  have hD : va_D (va_A [(h0, .inr (5, [.null, .null, .null, .null, .null, .null, .null, .null, .int 0, .int 0, .int 0]))] s.heap.size) ((h0, .inr (5, [.ref q7, .ref q15, .ref q23, .ref q31, .ref q39, .null, .null, .null, .int 0, .int 0, .int 0])) :: w5) := hD
  refine lv_aload_n F.1 F.2.1 dX5_init_44 rfl (lv_at hl 0 rfl) ?_
  refine lv_bipush (v := 8) F.1 F.2.1 dX5_init_45 (by decide) ?_
  refine nw_int F (by decide +kernel) hK hP hD hS hA (N := 8) (by decide) (by decide) (by decide) 6 208 (by decide) (by decide) dX5_init_47 (fun q47 H hP hD hS => ?_)
  obtain ⟨w6, e6⟩ : ∃ w : va_W, w = w5 ++ [(q47, .inl (cs.1, 8, .inl (fun _ => 0)))] := ⟨_, rfl⟩
  have hP : va_P D vwCl ((h0, .inr (5, [.ref q7, .ref q15, .ref q23, .ref q31, .ref q39, .null, .null, .null, .int 0, .int 0, .int 0])) :: w6) H := by rw [e6]; exact hP
  have hD : va_D (va_A [(h0, .inr (5, [.null, .null, .null, .null, .null, .null, .null, .null, .int 0, .int 0, .int 0]))] s.heap.size) ((h0, .inr (5, [.ref q7, .ref q15, .ref q23, .ref q31, .ref q39, .null, .null, .null, .int 0, .int 0, .int 0])) :: w6) := by rw [e6]; exact hD
  refine va_putF (D := D) (ci := 5) (v := .ref q47) (ty := .array .int) (C := RX5) (T := TX5) (N := 11) (own := RX5) F.1 F.2.1 F.2.2.2.2 in_X5_init tyX5 tyX5_ok nmX5 F.2.2.2.1 hK hP hD hS 0 rfl rfl 5 (by decide) (F.2.2.2.2 (.fieldLink RX5 27 "CellCover$Net" "outputNode" "[I") (by decide +kernel)) (fun _ h9 => h9) rfl hin rfl (by decide +kernel) rfl rfl (Nat.le_of_ble_eq_true rfl) dX5_init_49 (fun H locs hP hD hS => ?_)
  have hP : va_P D vwCl ((h0, .inr (5, [.ref q7, .ref q15, .ref q23, .ref q31, .ref q39, .ref q47, .null, .null, .int 0, .int 0, .int 0])) :: w6) H := hP
  have hD : va_D (va_A [(h0, .inr (5, [.null, .null, .null, .null, .null, .null, .null, .null, .int 0, .int 0, .int 0]))] s.heap.size) ((h0, .inr (5, [.ref q7, .ref q15, .ref q23, .ref q31, .ref q39, .ref q47, .null, .null, .int 0, .int 0, .int 0])) :: w6) := hD
  refine lv_aload_n F.1 F.2.1 dX5_init_52 rfl (lv_at hl 0 rfl) ?_
  refine lv_bipush (v := 40) F.1 F.2.1 dX5_init_53 (by decide) ?_
  refine nw_int F (by decide +kernel) hK hP hD hS hA (N := 40) (by decide) (by decide) (by decide) 7 248 (by decide) (by decide) dX5_init_55 (fun q55 H hP hD hS => ?_)
  obtain ⟨w7, e7⟩ : ∃ w : va_W, w = w6 ++ [(q55, .inl (cs.1, 40, .inl (fun _ => 0)))] := ⟨_, rfl⟩
  have hP : va_P D vwCl ((h0, .inr (5, [.ref q7, .ref q15, .ref q23, .ref q31, .ref q39, .ref q47, .null, .null, .int 0, .int 0, .int 0])) :: w7) H := by rw [e7]; exact hP
  have hD : va_D (va_A [(h0, .inr (5, [.null, .null, .null, .null, .null, .null, .null, .null, .int 0, .int 0, .int 0]))] s.heap.size) ((h0, .inr (5, [.ref q7, .ref q15, .ref q23, .ref q31, .ref q39, .ref q47, .null, .null, .int 0, .int 0, .int 0])) :: w7) := by rw [e7]; exact hD
  refine va_putF (D := D) (ci := 5) (v := .ref q55) (ty := .array .int) (C := RX5) (T := TX5) (N := 11) (own := RX5) F.1 F.2.1 F.2.2.2.2 in_X5_init tyX5 tyX5_ok nmX5 F.2.2.2.1 hK hP hD hS 0 rfl rfl 6 (by decide) (F.2.2.2.2 (.fieldLink RX5 30 "CellCover$Net" "verticesAhead" "[I") (by decide +kernel)) (fun _ h9 => h9) rfl hin rfl (by decide +kernel) rfl rfl (Nat.le_of_ble_eq_true rfl) dX5_init_57 (fun H locs hP hD hS => ?_)
  have hP : va_P D vwCl ((h0, .inr (5, [.ref q7, .ref q15, .ref q23, .ref q31, .ref q39, .ref q47, .ref q55, .null, .int 0, .int 0, .int 0])) :: w7) H := hP
  have hD : va_D (va_A [(h0, .inr (5, [.null, .null, .null, .null, .null, .null, .null, .null, .int 0, .int 0, .int 0]))] s.heap.size) ((h0, .inr (5, [.ref q7, .ref q15, .ref q23, .ref q31, .ref q39, .ref q47, .ref q55, .null, .int 0, .int 0, .int 0])) :: w7) := hD
  refine lv_aload_n F.1 F.2.1 dX5_init_60 rfl (lv_at hl 0 rfl) ?_
  refine lv_bipush (v := 40) F.1 F.2.1 dX5_init_61 (by decide) ?_
  refine nw_int F (by decide +kernel) hK hP hD hS hA (N := 40) (by decide) (by decide) (by decide) 8 288 (by decide) (by decide) dX5_init_63 (fun q63 H hP hD hS => ?_)
  obtain ⟨w8, e8⟩ : ∃ w : va_W, w = w7 ++ [(q63, .inl (cs.1, 40, .inl (fun _ => 0)))] := ⟨_, rfl⟩
  have hP : va_P D vwCl ((h0, .inr (5, [.ref q7, .ref q15, .ref q23, .ref q31, .ref q39, .ref q47, .ref q55, .null, .int 0, .int 0, .int 0])) :: w8) H := by rw [e8]; exact hP
  have hD : va_D (va_A [(h0, .inr (5, [.null, .null, .null, .null, .null, .null, .null, .null, .int 0, .int 0, .int 0]))] s.heap.size) ((h0, .inr (5, [.ref q7, .ref q15, .ref q23, .ref q31, .ref q39, .ref q47, .ref q55, .null, .int 0, .int 0, .int 0])) :: w8) := by rw [e8]; exact hD
  refine va_putF (D := D) (ci := 5) (v := .ref q63) (ty := .array .int) (C := RX5) (T := TX5) (N := 11) (own := RX5) F.1 F.2.1 F.2.2.2.2 in_X5_init tyX5 tyX5_ok nmX5 F.2.2.2.1 hK hP hD hS 0 rfl rfl 7 (by decide) (F.2.2.2.2 (.fieldLink RX5 33 "CellCover$Net" "vertexAt" "[I") (by decide +kernel)) (fun _ h9 => h9) rfl hin rfl (by decide +kernel) rfl rfl (Nat.le_of_ble_eq_true rfl) dX5_init_65 (fun H locs hP hD hS => ?_)
  have hP : va_P D vwCl ((h0, .inr (5, [.ref q7, .ref q15, .ref q23, .ref q31, .ref q39, .ref q47, .ref q55, .ref q63, .int 0, .int 0, .int 0])) :: w8) H := hP
  have hD : va_D (va_A [(h0, .inr (5, [.null, .null, .null, .null, .null, .null, .null, .null, .int 0, .int 0, .int 0]))] s.heap.size) ((h0, .inr (5, [.ref q7, .ref q15, .ref q23, .ref q31, .ref q39, .ref q47, .ref q55, .ref q63, .int 0, .int 0, .int 0])) :: w8) := hD
  refine lv_aload_n F.1 F.2.1 dX5_init_68 rfl (lv_at hl 0 rfl) ?_
  refine lv_iconst (v := 0) F.1 F.2.1 dX5_init_69 (by decide) ?_
  refine va_put (D := D) (ci := 5) (v := .int 0) (ty := .int) (C := RX5) (T := TX5) (N := 11) (own := RX5) F.1 F.2.1 F.2.2.2.2 in_X5_init tyX5 tyX5_ok nmX5 F.2.2.2.1 hK hP hD hS 0 rfl rfl 8 (by decide) (F.2.2.2.2 (.fieldLink RX5 36 "CellCover$Net" "nodes" "I") (by decide +kernel)) (fun _ h9 => h9) rfl (by decide +kernel) rfl rfl (Nat.le_of_ble_eq_true rfl) dX5_init_70 (fun H locs hP hD hS => ?_)
  have hP : va_P D vwCl ((h0, .inr (5, [.ref q7, .ref q15, .ref q23, .ref q31, .ref q39, .ref q47, .ref q55, .ref q63, .int 0, .int 0, .int 0])) :: w8) H := hP
  have hD : va_D (va_A [(h0, .inr (5, [.null, .null, .null, .null, .null, .null, .null, .null, .int 0, .int 0, .int 0]))] s.heap.size) ((h0, .inr (5, [.ref q7, .ref q15, .ref q23, .ref q31, .ref q39, .ref q47, .ref q55, .ref q63, .int 0, .int 0, .int 0])) :: w8) := hD
  refine lv_aload_n F.1 F.2.1 dX5_init_73 rfl (lv_at hl 0 rfl) ?_
  refine lv_iconst (v := 0) F.1 F.2.1 dX5_init_74 (by decide) ?_
  refine va_put (D := D) (ci := 5) (v := .int 0) (ty := .int) (C := RX5) (T := TX5) (N := 11) (own := RX5) F.1 F.2.1 F.2.2.2.2 in_X5_init tyX5 tyX5_ok nmX5 F.2.2.2.1 hK hP hD hS 0 rfl rfl 9 (by decide) (F.2.2.2.2 (.fieldLink RX5 40 "CellCover$Net" "inputs" "I") (by decide +kernel)) (fun _ h9 => h9) rfl (by decide +kernel) rfl rfl (Nat.le_of_ble_eq_true rfl) dX5_init_75 (fun H locs hP hD hS => ?_)
  have hP : va_P D vwCl ((h0, .inr (5, [.ref q7, .ref q15, .ref q23, .ref q31, .ref q39, .ref q47, .ref q55, .ref q63, .int 0, .int 0, .int 0])) :: w8) H := hP
  have hD : va_D (va_A [(h0, .inr (5, [.null, .null, .null, .null, .null, .null, .null, .null, .int 0, .int 0, .int 0]))] s.heap.size) ((h0, .inr (5, [.ref q7, .ref q15, .ref q23, .ref q31, .ref q39, .ref q47, .ref q55, .ref q63, .int 0, .int 0, .int 0])) :: w8) := hD
  refine lv_aload_n F.1 F.2.1 dX5_init_78 rfl (lv_at hl 0 rfl) ?_
  refine lv_iconst (v := 0) F.1 F.2.1 dX5_init_79 (by decide) ?_
  refine va_put (D := D) (ci := 5) (v := .int 0) (ty := .int) (C := RX5) (T := TX5) (N := 11) (own := RX5) F.1 F.2.1 F.2.2.2.2 in_X5_init tyX5 tyX5_ok nmX5 F.2.2.2.1 hK hP hD hS 0 rfl rfl 10 (by decide) (F.2.2.2.2 (.fieldLink RX5 43 "CellCover$Net" "outputs" "I") (by decide +kernel)) (fun _ h9 => h9) rfl (by decide +kernel) rfl rfl (Nat.le_of_ble_eq_true rfl) dX5_init_80 (fun H locs hP hD hS => ?_)
  have hP : va_P D vwCl ((h0, .inr (5, [.ref q7, .ref q15, .ref q23, .ref q31, .ref q39, .ref q47, .ref q55, .ref q63, .int 0, .int 0, .int 0])) :: w8) H := hP
  have hD : va_D (va_A [(h0, .inr (5, [.null, .null, .null, .null, .null, .null, .null, .null, .int 0, .int 0, .int 0]))] s.heap.size) ((h0, .inr (5, [.ref q7, .ref q15, .ref q23, .ref q31, .ref q39, .ref q47, .ref q55, .ref q63, .int 0, .int 0, .int 0])) :: w8) := hD
  subst e0 e1 e2 e3 e4 e5 e6 e7 e8
  exact nw_ret F hr hlk hK (fun n => match n with | 0 => q7 | 1 => q15 | 2 => q23 | 3 => q31 | 4 => q39 | 5 => q47 | 6 => q55 | 7 => q63 | _ => 0) hP hD hS dX5_init_83 (by decide) (by decide)
abbrev w1_X7 (_ : va_G) (cs : CS) (h0 : Nat) (u : Nat → Nat) : va_W := [(h0, .inr (7, [.ref (u 0), .ref (u 1), .ref (u 2), .ref (u 3), .ref (u 4), .ref (u 5), .int 0, .int 0, .int 0])), (u 0, .inl (cs.1, 160, .inl (fun _ => 0))), (u 1, .inl (cs.1, 160, .inl (fun _ => 0))), (u 2, .inl (cs.1, 160, .inl (fun _ => 0))), (u 3, .inl (cs.1, 160, .inl (fun _ => 0))), (u 4, .inl (cs.2.1, 160, .inl (fun _ => 0))), (u 5, .inl (cs.2.1, 160, .inl (fun _ => 0)))]
abbrev rm_X7_init : Room := { frames := 1, cells := 6, slots := 960, locals := 12 }
theorem in_X7_init : ∀ w ∈ wsX70, w ∈ wsX7_init := by decide +kernel
set_option maxHeartbeats 4000000 in
set_option maxRecDepth 100000 in
theorem c_X7_init (l : Launch) (D : va_G) (cs : CS) (h0 : Nat) (sz : Nat) : Met l yX7_init wsX7_init rm_X7_init (va_Pc [.ref h0] (CI D cs [(h0, .inr (7, [.null, .null, .null, .null, .null, .null, .int 0, .int 0, .int 0]))] sz)) (CO D cs [(h0, .inr (7, [.null, .null, .null, .null, .null, .null, .int 0, .int 0, .int 0]))] sz (w1_X7 D cs h0)) 6 960 (va_A [(h0, .inr (7, [.null, .null, .null, .null, .null, .null, .int 0, .int 0, .int 0]))] sz) := by
  refine Met.ofW (cc := cX7_init) (maxL := 1) (ret := none) (by decide) rfl ?_
  intro p e s m args below meth c s₁ B hml hv
  obtain ⟨rfl, hsz, hP, hK, hD0, hN0⟩ := hv
  have F : CallFix p m c cX7_init 1 s _ wsX7_init RX7 := ⟨B.exec, B.bytes, hml, findClass_of_methodNamed B.named, atoms_spec (ws := wsX7_init) B.pre⟩
  have hr := B.returns
  have hlk := B.notSynchronized
  have hin : meth.name = "<init>" := (name_of_methodNamed B.named B.method).1
  subst hsz
  have hD := hD0.self (sz := s.heap.size)
  have hA : ∀ q : Nat, s.heap.size ≤ q → va_A [(h0, .inr (7, [.null, .null, .null, .null, .null, .null, .int 0, .int 0, .int 0]))] s.heap.size q := fun q h => Or.inr h
  have hS : va_S (va_A [(h0, .inr (7, [.null, .null, .null, .null, .null, .null, .int 0, .int 0, .int 0]))] s.heap.size) s.heap s.heap [] := va_S.rf
  have hl := lv_entry ([.ref h0]) (n := 1) (Nat.le_of_ble_eq_true rfl)
  rw [lg_entry_eq]
  generalize (lg_sl ([.ref h0]) ++ List.replicate (1 - (lg_sl ([.ref h0])).length) Slot.unset).toArray = ls at hl ⊢
  have hl : lv_has ls 1 [(0, .ref h0)] := hl
  obtain ⟨w0, e0⟩ : ∃ w : va_W, w = [] := ⟨_, rfl⟩
  have hP : va_P D vwCl ((h0, .inr (7, [.null, .null, .null, .null, .null, .null, .int 0, .int 0, .int 0])) :: w0) s.heap := by rw [e0]; exact hP
  have hD : va_D (va_A [(h0, .inr (7, [.null, .null, .null, .null, .null, .null, .int 0, .int 0, .int 0]))] s.heap.size) ((h0, .inr (7, [.null, .null, .null, .null, .null, .null, .int 0, .int 0, .int 0])) :: w0) := by rw [e0]; exact hD
  refine lv_aload_n F.1 F.2.1 dX7_init_0 rfl (lv_at hl 0 rfl) ?_
  refine W.objInit F.1 F.2.1 F.2.2.2.1 (F.2.2.2.2 (.methodLink RX7 3 objectInit) (by decide +kernel)) (F.2.2.2.2 (.instanceMethod objectInit) (by decide +kernel)) (F.2.2.2.2 (.code objectInit ⟨#[0xb1]⟩ 1 none) (by decide +kernel)) rfl (F.2.2.1 ▸ hl.1) rfl dX7_init_1 (Nat.le_of_ble_eq_true rfl) (Nat.le_of_ble_eq_true rfl) ?_
  refine W.eq (g2 := F0 m 4 ls []) rfl ?_
  refine lv_aload_n F.1 F.2.1 dX7_init_4 rfl (lv_at hl 0 rfl) ?_
  refine lv_sipush (v := 160) F.1 F.2.1 dX7_init_5 (by decide) ?_
  refine nw_int F (by decide +kernel) hK hP hD hS hA (N := 160) (by decide) (by decide) (by decide) 1 160 (by decide) (by decide) dX7_init_8 (fun q8 H hP hD hS => ?_)
  obtain ⟨w1, e1⟩ : ∃ w : va_W, w = w0 ++ [(q8, .inl (cs.1, 160, .inl (fun _ => 0)))] := ⟨_, rfl⟩
  have hP : va_P D vwCl ((h0, .inr (7, [.null, .null, .null, .null, .null, .null, .int 0, .int 0, .int 0])) :: w1) H := by rw [e1]; exact hP
  have hD : va_D (va_A [(h0, .inr (7, [.null, .null, .null, .null, .null, .null, .int 0, .int 0, .int 0]))] s.heap.size) ((h0, .inr (7, [.null, .null, .null, .null, .null, .null, .int 0, .int 0, .int 0])) :: w1) := by rw [e1]; exact hD
  refine va_putF (D := D) (ci := 7) (v := .ref q8) (ty := .array .int) (C := RX7) (T := TX7) (N := 9) (own := RX7) F.1 F.2.1 F.2.2.2.2 in_X7_init tyX7 tyX7_ok nmX7 F.2.2.2.1 hK hP hD hS 0 rfl rfl 0 (by decide) (F.2.2.2.2 (.fieldLink RX7 9 "CellCover$Vertices" "form" "[I") (by decide +kernel)) (fun _ h9 => h9) rfl hin rfl (by decide +kernel) rfl rfl (Nat.le_of_ble_eq_true rfl) dX7_init_10 (fun H locs hP hD hS => ?_)
  have hP : va_P D vwCl ((h0, .inr (7, [.ref q8, .null, .null, .null, .null, .null, .int 0, .int 0, .int 0])) :: w1) H := hP
  have hD : va_D (va_A [(h0, .inr (7, [.null, .null, .null, .null, .null, .null, .int 0, .int 0, .int 0]))] s.heap.size) ((h0, .inr (7, [.ref q8, .null, .null, .null, .null, .null, .int 0, .int 0, .int 0])) :: w1) := hD
  refine lv_aload_n F.1 F.2.1 dX7_init_13 rfl (lv_at hl 0 rfl) ?_
  refine lv_sipush (v := 160) F.1 F.2.1 dX7_init_14 (by decide) ?_
  refine nw_int F (by decide +kernel) hK hP hD hS hA (N := 160) (by decide) (by decide) (by decide) 2 320 (by decide) (by decide) dX7_init_17 (fun q17 H hP hD hS => ?_)
  obtain ⟨w2, e2⟩ : ∃ w : va_W, w = w1 ++ [(q17, .inl (cs.1, 160, .inl (fun _ => 0)))] := ⟨_, rfl⟩
  have hP : va_P D vwCl ((h0, .inr (7, [.ref q8, .null, .null, .null, .null, .null, .int 0, .int 0, .int 0])) :: w2) H := by rw [e2]; exact hP
  have hD : va_D (va_A [(h0, .inr (7, [.null, .null, .null, .null, .null, .null, .int 0, .int 0, .int 0]))] s.heap.size) ((h0, .inr (7, [.ref q8, .null, .null, .null, .null, .null, .int 0, .int 0, .int 0])) :: w2) := by rw [e2]; exact hD
  refine va_putF (D := D) (ci := 7) (v := .ref q17) (ty := .array .int) (C := RX7) (T := TX7) (N := 9) (own := RX7) F.1 F.2.1 F.2.2.2.2 in_X7_init tyX7 tyX7_ok nmX7 F.2.2.2.1 hK hP hD hS 0 rfl rfl 1 (by decide) (F.2.2.2.2 (.fieldLink RX7 15 "CellCover$Vertices" "first" "[I") (by decide +kernel)) (fun _ h9 => h9) rfl hin rfl (by decide +kernel) rfl rfl (Nat.le_of_ble_eq_true rfl) dX7_init_19 (fun H locs hP hD hS => ?_)
  have hP : va_P D vwCl ((h0, .inr (7, [.ref q8, .ref q17, .null, .null, .null, .null, .int 0, .int 0, .int 0])) :: w2) H := hP
  have hD : va_D (va_A [(h0, .inr (7, [.null, .null, .null, .null, .null, .null, .int 0, .int 0, .int 0]))] s.heap.size) ((h0, .inr (7, [.ref q8, .ref q17, .null, .null, .null, .null, .int 0, .int 0, .int 0])) :: w2) := hD
  refine lv_aload_n F.1 F.2.1 dX7_init_22 rfl (lv_at hl 0 rfl) ?_
  refine lv_sipush (v := 160) F.1 F.2.1 dX7_init_23 (by decide) ?_
  refine nw_int F (by decide +kernel) hK hP hD hS hA (N := 160) (by decide) (by decide) (by decide) 3 480 (by decide) (by decide) dX7_init_26 (fun q26 H hP hD hS => ?_)
  obtain ⟨w3, e3⟩ : ∃ w : va_W, w = w2 ++ [(q26, .inl (cs.1, 160, .inl (fun _ => 0)))] := ⟨_, rfl⟩
  have hP : va_P D vwCl ((h0, .inr (7, [.ref q8, .ref q17, .null, .null, .null, .null, .int 0, .int 0, .int 0])) :: w3) H := by rw [e3]; exact hP
  have hD : va_D (va_A [(h0, .inr (7, [.null, .null, .null, .null, .null, .null, .int 0, .int 0, .int 0]))] s.heap.size) ((h0, .inr (7, [.ref q8, .ref q17, .null, .null, .null, .null, .int 0, .int 0, .int 0])) :: w3) := by rw [e3]; exact hD
  refine va_putF (D := D) (ci := 7) (v := .ref q26) (ty := .array .int) (C := RX7) (T := TX7) (N := 9) (own := RX7) F.1 F.2.1 F.2.2.2.2 in_X7_init tyX7 tyX7_ok nmX7 F.2.2.2.1 hK hP hD hS 0 rfl rfl 2 (by decide) (F.2.2.2.2 (.fieldLink RX7 18 "CellCover$Vertices" "second" "[I") (by decide +kernel)) (fun _ h9 => h9) rfl hin rfl (by decide +kernel) rfl rfl (Nat.le_of_ble_eq_true rfl) dX7_init_28 (fun H locs hP hD hS => ?_)
  have hP : va_P D vwCl ((h0, .inr (7, [.ref q8, .ref q17, .ref q26, .null, .null, .null, .int 0, .int 0, .int 0])) :: w3) H := hP
  have hD : va_D (va_A [(h0, .inr (7, [.null, .null, .null, .null, .null, .null, .int 0, .int 0, .int 0]))] s.heap.size) ((h0, .inr (7, [.ref q8, .ref q17, .ref q26, .null, .null, .null, .int 0, .int 0, .int 0])) :: w3) := hD
  refine lv_aload_n F.1 F.2.1 dX7_init_31 rfl (lv_at hl 0 rfl) ?_
  refine lv_sipush (v := 160) F.1 F.2.1 dX7_init_32 (by decide) ?_
  refine nw_int F (by decide +kernel) hK hP hD hS hA (N := 160) (by decide) (by decide) (by decide) 4 640 (by decide) (by decide) dX7_init_35 (fun q35 H hP hD hS => ?_)
  obtain ⟨w4, e4⟩ : ∃ w : va_W, w = w3 ++ [(q35, .inl (cs.1, 160, .inl (fun _ => 0)))] := ⟨_, rfl⟩
  have hP : va_P D vwCl ((h0, .inr (7, [.ref q8, .ref q17, .ref q26, .null, .null, .null, .int 0, .int 0, .int 0])) :: w4) H := by rw [e4]; exact hP
  have hD : va_D (va_A [(h0, .inr (7, [.null, .null, .null, .null, .null, .null, .int 0, .int 0, .int 0]))] s.heap.size) ((h0, .inr (7, [.ref q8, .ref q17, .ref q26, .null, .null, .null, .int 0, .int 0, .int 0])) :: w4) := by rw [e4]; exact hD
  refine va_putF (D := D) (ci := 7) (v := .ref q35) (ty := .array .int) (C := RX7) (T := TX7) (N := 9) (own := RX7) F.1 F.2.1 F.2.2.2.2 in_X7_init tyX7 tyX7_ok nmX7 F.2.2.2.1 hK hP hD hS 0 rfl rfl 3 (by decide) (F.2.2.2.2 (.fieldLink RX7 21 "CellCover$Vertices" "uses" "[I") (by decide +kernel)) (fun _ h9 => h9) rfl hin rfl (by decide +kernel) rfl rfl (Nat.le_of_ble_eq_true rfl) dX7_init_37 (fun H locs hP hD hS => ?_)
  have hP : va_P D vwCl ((h0, .inr (7, [.ref q8, .ref q17, .ref q26, .ref q35, .null, .null, .int 0, .int 0, .int 0])) :: w4) H := hP
  have hD : va_D (va_A [(h0, .inr (7, [.null, .null, .null, .null, .null, .null, .int 0, .int 0, .int 0]))] s.heap.size) ((h0, .inr (7, [.ref q8, .ref q17, .ref q26, .ref q35, .null, .null, .int 0, .int 0, .int 0])) :: w4) := hD
  refine lv_aload_n F.1 F.2.1 dX7_init_40 rfl (lv_at hl 0 rfl) ?_
  refine lv_sipush (v := 160) F.1 F.2.1 dX7_init_41 (by decide) ?_
  refine nw_bool F (by decide +kernel) hK hP hD hS hA (N := 160) (by decide) (by decide) (by decide) 5 800 (by decide) (by decide) dX7_init_44 (fun q44 H hP hD hS => ?_)
  obtain ⟨w5, e5⟩ : ∃ w : va_W, w = w4 ++ [(q44, .inl (cs.2.1, 160, .inl (fun _ => 0)))] := ⟨_, rfl⟩
  have hP : va_P D vwCl ((h0, .inr (7, [.ref q8, .ref q17, .ref q26, .ref q35, .null, .null, .int 0, .int 0, .int 0])) :: w5) H := by rw [e5]; exact hP
  have hD : va_D (va_A [(h0, .inr (7, [.null, .null, .null, .null, .null, .null, .int 0, .int 0, .int 0]))] s.heap.size) ((h0, .inr (7, [.ref q8, .ref q17, .ref q26, .ref q35, .null, .null, .int 0, .int 0, .int 0])) :: w5) := by rw [e5]; exact hD
  refine va_putF (D := D) (ci := 7) (v := .ref q44) (ty := .array .boolean) (C := RX7) (T := TX7) (N := 9) (own := RX7) F.1 F.2.1 F.2.2.2.2 in_X7_init tyX7 tyX7_ok nmX7 F.2.2.2.1 hK hP hD hS 0 rfl rfl 4 (by decide) (F.2.2.2.2 (.fieldLink RX7 24 "CellCover$Vertices" "lives" "[Z") (by decide +kernel)) (fun _ h9 => h9) rfl hin rfl (by decide +kernel) rfl rfl (Nat.le_of_ble_eq_true rfl) dX7_init_46 (fun H locs hP hD hS => ?_)
  have hP : va_P D vwCl ((h0, .inr (7, [.ref q8, .ref q17, .ref q26, .ref q35, .ref q44, .null, .int 0, .int 0, .int 0])) :: w5) H := hP
  have hD : va_D (va_A [(h0, .inr (7, [.null, .null, .null, .null, .null, .null, .int 0, .int 0, .int 0]))] s.heap.size) ((h0, .inr (7, [.ref q8, .ref q17, .ref q26, .ref q35, .ref q44, .null, .int 0, .int 0, .int 0])) :: w5) := hD
  refine lv_aload_n F.1 F.2.1 dX7_init_49 rfl (lv_at hl 0 rfl) ?_
  refine lv_sipush (v := 160) F.1 F.2.1 dX7_init_50 (by decide) ?_
  refine nw_bool F (by decide +kernel) hK hP hD hS hA (N := 160) (by decide) (by decide) (by decide) 6 960 (by decide) (by decide) dX7_init_53 (fun q53 H hP hD hS => ?_)
  obtain ⟨w6, e6⟩ : ∃ w : va_W, w = w5 ++ [(q53, .inl (cs.2.1, 160, .inl (fun _ => 0)))] := ⟨_, rfl⟩
  have hP : va_P D vwCl ((h0, .inr (7, [.ref q8, .ref q17, .ref q26, .ref q35, .ref q44, .null, .int 0, .int 0, .int 0])) :: w6) H := by rw [e6]; exact hP
  have hD : va_D (va_A [(h0, .inr (7, [.null, .null, .null, .null, .null, .null, .int 0, .int 0, .int 0]))] s.heap.size) ((h0, .inr (7, [.ref q8, .ref q17, .ref q26, .ref q35, .ref q44, .null, .int 0, .int 0, .int 0])) :: w6) := by rw [e6]; exact hD
  refine va_putF (D := D) (ci := 7) (v := .ref q53) (ty := .array .boolean) (C := RX7) (T := TX7) (N := 9) (own := RX7) F.1 F.2.1 F.2.2.2.2 in_X7_init tyX7 tyX7_ok nmX7 F.2.2.2.1 hK hP hD hS 0 rfl rfl 5 (by decide) (F.2.2.2.2 (.fieldLink RX7 28 "CellCover$Vertices" "root" "[Z") (by decide +kernel)) (fun _ h9 => h9) rfl hin rfl (by decide +kernel) rfl rfl (Nat.le_of_ble_eq_true rfl) dX7_init_55 (fun H locs hP hD hS => ?_)
  have hP : va_P D vwCl ((h0, .inr (7, [.ref q8, .ref q17, .ref q26, .ref q35, .ref q44, .ref q53, .int 0, .int 0, .int 0])) :: w6) H := hP
  have hD : va_D (va_A [(h0, .inr (7, [.null, .null, .null, .null, .null, .null, .int 0, .int 0, .int 0]))] s.heap.size) ((h0, .inr (7, [.ref q8, .ref q17, .ref q26, .ref q35, .ref q44, .ref q53, .int 0, .int 0, .int 0])) :: w6) := hD
  refine lv_aload_n F.1 F.2.1 dX7_init_58 rfl (lv_at hl 0 rfl) ?_
  refine lv_iconst (v := 0) F.1 F.2.1 dX7_init_59 (by decide) ?_
  refine va_put (D := D) (ci := 7) (v := .int 0) (ty := .int) (C := RX7) (T := TX7) (N := 9) (own := RX7) F.1 F.2.1 F.2.2.2.2 in_X7_init tyX7 tyX7_ok nmX7 F.2.2.2.1 hK hP hD hS 0 rfl rfl 6 (by decide) (F.2.2.2.2 (.fieldLink RX7 31 "CellCover$Vertices" "many" "I") (by decide +kernel)) (fun _ h9 => h9) rfl (by decide +kernel) rfl rfl (Nat.le_of_ble_eq_true rfl) dX7_init_60 (fun H locs hP hD hS => ?_)
  have hP : va_P D vwCl ((h0, .inr (7, [.ref q8, .ref q17, .ref q26, .ref q35, .ref q44, .ref q53, .int 0, .int 0, .int 0])) :: w6) H := hP
  have hD : va_D (va_A [(h0, .inr (7, [.null, .null, .null, .null, .null, .null, .int 0, .int 0, .int 0]))] s.heap.size) ((h0, .inr (7, [.ref q8, .ref q17, .ref q26, .ref q35, .ref q44, .ref q53, .int 0, .int 0, .int 0])) :: w6) := hD
  refine lv_aload_n F.1 F.2.1 dX7_init_63 rfl (lv_at hl 0 rfl) ?_
  refine lv_iconst (v := 0) F.1 F.2.1 dX7_init_64 (by decide) ?_
  refine va_put (D := D) (ci := 7) (v := .int 0) (ty := .int) (C := RX7) (T := TX7) (N := 9) (own := RX7) F.1 F.2.1 F.2.2.2.2 in_X7_init tyX7 tyX7_ok nmX7 F.2.2.2.1 hK hP hD hS 0 rfl rfl 7 (by decide) (F.2.2.2.2 (.fieldLink RX7 35 "CellCover$Vertices" "living" "I") (by decide +kernel)) (fun _ h9 => h9) rfl (by decide +kernel) rfl rfl (Nat.le_of_ble_eq_true rfl) dX7_init_65 (fun H locs hP hD hS => ?_)
  have hP : va_P D vwCl ((h0, .inr (7, [.ref q8, .ref q17, .ref q26, .ref q35, .ref q44, .ref q53, .int 0, .int 0, .int 0])) :: w6) H := hP
  have hD : va_D (va_A [(h0, .inr (7, [.null, .null, .null, .null, .null, .null, .int 0, .int 0, .int 0]))] s.heap.size) ((h0, .inr (7, [.ref q8, .ref q17, .ref q26, .ref q35, .ref q44, .ref q53, .int 0, .int 0, .int 0])) :: w6) := hD
  refine lv_aload_n F.1 F.2.1 dX7_init_68 rfl (lv_at hl 0 rfl) ?_
  refine lv_iconst (v := 0) F.1 F.2.1 dX7_init_69 (by decide) ?_
  refine va_put (D := D) (ci := 7) (v := .int 0) (ty := .int) (C := RX7) (T := TX7) (N := 9) (own := RX7) F.1 F.2.1 F.2.2.2.2 in_X7_init tyX7 tyX7_ok nmX7 F.2.2.2.1 hK hP hD hS 0 rfl rfl 8 (by decide) (F.2.2.2.2 (.fieldLink RX7 38 "CellCover$Vertices" "roots" "I") (by decide +kernel)) (fun _ h9 => h9) rfl (by decide +kernel) rfl rfl (Nat.le_of_ble_eq_true rfl) dX7_init_70 (fun H locs hP hD hS => ?_)
  have hP : va_P D vwCl ((h0, .inr (7, [.ref q8, .ref q17, .ref q26, .ref q35, .ref q44, .ref q53, .int 0, .int 0, .int 0])) :: w6) H := hP
  have hD : va_D (va_A [(h0, .inr (7, [.null, .null, .null, .null, .null, .null, .int 0, .int 0, .int 0]))] s.heap.size) ((h0, .inr (7, [.ref q8, .ref q17, .ref q26, .ref q35, .ref q44, .ref q53, .int 0, .int 0, .int 0])) :: w6) := hD
  subst e0 e1 e2 e3 e4 e5 e6
  exact nw_ret F hr hlk hK (fun n => match n with | 0 => q8 | 1 => q17 | 2 => q26 | 3 => q35 | 4 => q44 | 5 => q53 | _ => 0) hP hD hS dX7_init_73 (by decide) (by decide)
abbrev w1_X4 (_ : va_G) (cs : CS) (h0 : Nat) (p0 : Nat) (u : Nat → Nat) : va_W := [(h0, .inr (4, [.ref p0, .ref (u 0), .ref (u 1), .null, .int 0, .int 0])), (u 0, .inl (cs.1, 13, .inl (fun _ => 0))), (u 1, .inl (cs.1, 6, .inl (fun _ => 0)))]
abbrev rm_X4_init : Room := { frames := 1, cells := 2, slots := 19, locals := 12 }
theorem in_X4_init : ∀ w ∈ wsX40, w ∈ wsX4_init := by decide +kernel
set_option maxHeartbeats 4000000 in
set_option maxRecDepth 100000 in
theorem c_X4_init (l : Launch) (D : va_G) (cs : CS) (h0 : Nat) (p0 : Nat) (sz : Nat) : Met l yX4_init wsX4_init rm_X4_init (va_Pc [.ref h0, .ref p0] (CI D cs [(h0, .inr (4, [.null, .null, .null, .null, .int 0, .int 0]))] sz)) (CO D cs [(h0, .inr (4, [.null, .null, .null, .null, .int 0, .int 0]))] sz (w1_X4 D cs h0 p0)) 2 19 (va_A [(h0, .inr (4, [.null, .null, .null, .null, .int 0, .int 0]))] sz) := by
  refine Met.ofW (cc := cX4_init) (maxL := 2) (ret := none) (by decide) rfl ?_
  intro p e s m args below meth c s₁ B hml hv
  obtain ⟨rfl, hsz, hP, hK, hD0, hN0⟩ := hv
  have F : CallFix p m c cX4_init 2 s _ wsX4_init RX4 := ⟨B.exec, B.bytes, hml, findClass_of_methodNamed B.named, atoms_spec (ws := wsX4_init) B.pre⟩
  have hr := B.returns
  have hlk := B.notSynchronized
  have hin : meth.name = "<init>" := (name_of_methodNamed B.named B.method).1
  subst hsz
  have hD := hD0.self (sz := s.heap.size)
  have hA : ∀ q : Nat, s.heap.size ≤ q → va_A [(h0, .inr (4, [.null, .null, .null, .null, .int 0, .int 0]))] s.heap.size q := fun q h => Or.inr h
  have hS : va_S (va_A [(h0, .inr (4, [.null, .null, .null, .null, .int 0, .int 0]))] s.heap.size) s.heap s.heap [] := va_S.rf
  have hl := lv_entry ([.ref h0, .ref p0]) (n := 2) (Nat.le_of_ble_eq_true rfl)
  rw [lg_entry_eq]
  generalize (lg_sl ([.ref h0, .ref p0]) ++ List.replicate (2 - (lg_sl ([.ref h0, .ref p0])).length) Slot.unset).toArray = ls at hl ⊢
  have hl : lv_has ls 2 [(0, .ref h0), (1, .ref p0)] := hl
  obtain ⟨w0, e0⟩ : ∃ w : va_W, w = [] := ⟨_, rfl⟩
  have hP : va_P D vwCl ((h0, .inr (4, [.null, .null, .null, .null, .int 0, .int 0])) :: w0) s.heap := by rw [e0]; exact hP
  have hD : va_D (va_A [(h0, .inr (4, [.null, .null, .null, .null, .int 0, .int 0]))] s.heap.size) ((h0, .inr (4, [.null, .null, .null, .null, .int 0, .int 0])) :: w0) := by rw [e0]; exact hD
  refine lv_aload_n F.1 F.2.1 dX4_init_0 rfl (lv_at hl 0 rfl) ?_
  refine W.objInit F.1 F.2.1 F.2.2.2.1 (F.2.2.2.2 (.methodLink RX4 3 objectInit) (by decide +kernel)) (F.2.2.2.2 (.instanceMethod objectInit) (by decide +kernel)) (F.2.2.2.2 (.code objectInit ⟨#[0xb1]⟩ 1 none) (by decide +kernel)) rfl (F.2.2.1 ▸ hl.1) rfl dX4_init_1 (Nat.le_of_ble_eq_true rfl) (Nat.le_of_ble_eq_true rfl) ?_
  refine W.eq (g2 := F0 m 4 ls []) rfl ?_
  refine lv_aload_n F.1 F.2.1 dX4_init_4 rfl (lv_at hl 0 rfl) ?_
  refine lv_bipush (v := 13) F.1 F.2.1 dX4_init_5 (by decide) ?_
  refine nw_int F (by decide +kernel) hK hP hD hS hA (N := 13) (by decide) (by decide) (by decide) 1 13 (by decide) (by decide) dX4_init_7 (fun q7 H hP hD hS => ?_)
  obtain ⟨w1, e1⟩ : ∃ w : va_W, w = w0 ++ [(q7, .inl (cs.1, 13, .inl (fun _ => 0)))] := ⟨_, rfl⟩
  have hP : va_P D vwCl ((h0, .inr (4, [.null, .null, .null, .null, .int 0, .int 0])) :: w1) H := by rw [e1]; exact hP
  have hD : va_D (va_A [(h0, .inr (4, [.null, .null, .null, .null, .int 0, .int 0]))] s.heap.size) ((h0, .inr (4, [.null, .null, .null, .null, .int 0, .int 0])) :: w1) := by rw [e1]; exact hD
  refine va_putF (D := D) (ci := 4) (v := .ref q7) (ty := .array .int) (C := RX4) (T := TX4) (N := 6) (own := RX4) F.1 F.2.1 F.2.2.2.2 in_X4_init tyX4 tyX4_ok nmX4 F.2.2.2.1 hK hP hD hS 0 rfl rfl 1 (by decide) (F.2.2.2.2 (.fieldLink RX4 9 "CellCover$Matcher" "waiting" "[I") (by decide +kernel)) (fun _ h9 => h9) rfl hin rfl (by decide +kernel) rfl rfl (Nat.le_of_ble_eq_true rfl) dX4_init_9 (fun H locs hP hD hS => ?_)
  have hP : va_P D vwCl ((h0, .inr (4, [.null, .ref q7, .null, .null, .int 0, .int 0])) :: w1) H := hP
  have hD : va_D (va_A [(h0, .inr (4, [.null, .null, .null, .null, .int 0, .int 0]))] s.heap.size) ((h0, .inr (4, [.null, .ref q7, .null, .null, .int 0, .int 0])) :: w1) := hD
  refine lv_aload_n F.1 F.2.1 dX4_init_12 rfl (lv_at hl 0 rfl) ?_
  refine lv_bipush (v := 6) F.1 F.2.1 dX4_init_13 (by decide) ?_
  refine nw_int F (by decide +kernel) hK hP hD hS hA (N := 6) (by decide) (by decide) (by decide) 2 19 (by decide) (by decide) dX4_init_15 (fun q15 H hP hD hS => ?_)
  obtain ⟨w2, e2⟩ : ∃ w : va_W, w = w1 ++ [(q15, .inl (cs.1, 6, .inl (fun _ => 0)))] := ⟨_, rfl⟩
  have hP : va_P D vwCl ((h0, .inr (4, [.null, .ref q7, .null, .null, .int 0, .int 0])) :: w2) H := by rw [e2]; exact hP
  have hD : va_D (va_A [(h0, .inr (4, [.null, .null, .null, .null, .int 0, .int 0]))] s.heap.size) ((h0, .inr (4, [.null, .ref q7, .null, .null, .int 0, .int 0])) :: w2) := by rw [e2]; exact hD
  refine va_putF (D := D) (ci := 4) (v := .ref q15) (ty := .array .int) (C := RX4) (T := TX4) (N := 6) (own := RX4) F.1 F.2.1 F.2.2.2.2 in_X4_init tyX4 tyX4_ok nmX4 F.2.2.2.1 hK hP hD hS 0 rfl rfl 2 (by decide) (F.2.2.2.2 (.fieldLink RX4 15 "CellCover$Matcher" "pinAt" "[I") (by decide +kernel)) (fun _ h9 => h9) rfl hin rfl (by decide +kernel) rfl rfl (Nat.le_of_ble_eq_true rfl) dX4_init_17 (fun H locs hP hD hS => ?_)
  have hP : va_P D vwCl ((h0, .inr (4, [.null, .ref q7, .ref q15, .null, .int 0, .int 0])) :: w2) H := hP
  have hD : va_D (va_A [(h0, .inr (4, [.null, .null, .null, .null, .int 0, .int 0]))] s.heap.size) ((h0, .inr (4, [.null, .ref q7, .ref q15, .null, .int 0, .int 0])) :: w2) := hD
  refine lv_aload_n F.1 F.2.1 dX4_init_20 rfl (lv_at hl 0 rfl) ?_
  refine lv_null F.1 F.2.1 dX4_init_21 ?_
  refine va_put (D := D) (ci := 4) (v := .null) (ty := .object "CellCover$Cell") (C := RX4) (T := TX4) (N := 6) (own := RX4) F.1 F.2.1 F.2.2.2.2 in_X4_init tyX4 tyX4_ok nmX4 F.2.2.2.1 hK hP hD hS 0 rfl rfl 3 (by decide) (F.2.2.2.2 (.fieldLink RX4 18 "CellCover$Matcher" "cell" "LCellCover$Cell;") (by decide +kernel)) (fun _ h9 => h9) rfl (by decide +kernel) rfl rfl (Nat.le_of_ble_eq_true rfl) dX4_init_22 (fun H locs hP hD hS => ?_)
  have hP : va_P D vwCl ((h0, .inr (4, [.null, .ref q7, .ref q15, .null, .int 0, .int 0])) :: w2) H := hP
  have hD : va_D (va_A [(h0, .inr (4, [.null, .null, .null, .null, .int 0, .int 0]))] s.heap.size) ((h0, .inr (4, [.null, .ref q7, .ref q15, .null, .int 0, .int 0])) :: w2) := hD
  refine lv_aload_n F.1 F.2.1 dX4_init_25 rfl (lv_at hl 0 rfl) ?_
  refine lv_iconst (v := 0) F.1 F.2.1 dX4_init_26 (by decide) ?_
  refine va_put (D := D) (ci := 4) (v := .int 0) (ty := .int) (C := RX4) (T := TX4) (N := 6) (own := RX4) F.1 F.2.1 F.2.2.2.2 in_X4_init tyX4 tyX4_ok nmX4 F.2.2.2.1 hK hP hD hS 0 rfl rfl 4 (by decide) (F.2.2.2.2 (.fieldLink RX4 22 "CellCover$Matcher" "top" "I") (by decide +kernel)) (fun _ h9 => h9) rfl (by decide +kernel) rfl rfl (Nat.le_of_ble_eq_true rfl) dX4_init_27 (fun H locs hP hD hS => ?_)
  have hP : va_P D vwCl ((h0, .inr (4, [.null, .ref q7, .ref q15, .null, .int 0, .int 0])) :: w2) H := hP
  have hD : va_D (va_A [(h0, .inr (4, [.null, .null, .null, .null, .int 0, .int 0]))] s.heap.size) ((h0, .inr (4, [.null, .ref q7, .ref q15, .null, .int 0, .int 0])) :: w2) := hD
  refine lv_aload_n F.1 F.2.1 dX4_init_30 rfl (lv_at hl 0 rfl) ?_
  refine lv_iconst (v := 0) F.1 F.2.1 dX4_init_31 (by decide) ?_
  refine va_put (D := D) (ci := 4) (v := .int 0) (ty := .int) (C := RX4) (T := TX4) (N := 6) (own := RX4) F.1 F.2.1 F.2.2.2.2 in_X4_init tyX4 tyX4_ok nmX4 F.2.2.2.1 hK hP hD hS 0 rfl rfl 5 (by decide) (F.2.2.2.2 (.fieldLink RX4 26 "CellCover$Matcher" "turns" "I") (by decide +kernel)) (fun _ h9 => h9) rfl (by decide +kernel) rfl rfl (Nat.le_of_ble_eq_true rfl) dX4_init_32 (fun H locs hP hD hS => ?_)
  have hP : va_P D vwCl ((h0, .inr (4, [.null, .ref q7, .ref q15, .null, .int 0, .int 0])) :: w2) H := hP
  have hD : va_D (va_A [(h0, .inr (4, [.null, .null, .null, .null, .int 0, .int 0]))] s.heap.size) ((h0, .inr (4, [.null, .ref q7, .ref q15, .null, .int 0, .int 0])) :: w2) := hD
  refine lv_aload_n F.1 F.2.1 dX4_init_35 rfl (lv_at hl 0 rfl) ?_
  refine lv_aload_n F.1 F.2.1 dX4_init_36 rfl (lv_at hl 1 rfl) ?_
  refine va_putF (D := D) (ci := 4) (v := .ref p0) (ty := .object "CellCover$Vertices") (C := RX4) (T := TX4) (N := 6) (own := RX4) F.1 F.2.1 F.2.2.2.2 in_X4_init tyX4 tyX4_ok nmX4 F.2.2.2.1 hK hP hD hS 0 rfl rfl 0 (by decide) (F.2.2.2.2 (.fieldLink RX4 29 "CellCover$Matcher" "vertices" "LCellCover$Vertices;") (by decide +kernel)) (fun _ h9 => h9) rfl hin rfl (by decide +kernel) rfl rfl (Nat.le_of_ble_eq_true rfl) dX4_init_37 (fun H locs hP hD hS => ?_)
  have hP : va_P D vwCl ((h0, .inr (4, [.ref p0, .ref q7, .ref q15, .null, .int 0, .int 0])) :: w2) H := hP
  have hD : va_D (va_A [(h0, .inr (4, [.null, .null, .null, .null, .int 0, .int 0]))] s.heap.size) ((h0, .inr (4, [.ref p0, .ref q7, .ref q15, .null, .int 0, .int 0])) :: w2) := hD
  subst e0 e1 e2
  exact nw_ret F hr hlk hK (fun n => match n with | 0 => q7 | 1 => q15 | _ => 0) hP hD hS dX4_init_40 (by decide) (by decide)
abbrev w1_X1 (_ : va_G) (cs : CS) (h0 : Nat) (p0 : Nat) (p1 : Nat) (p2 : Nat) (u : Nat → Nat) : va_W := [(h0, .inr (1, [.ref p0, .ref p1, .ref p2, .ref (u 0), .ref (u 1), .ref (u 2), .ref (u 3), .ref (u 4), .ref (u 5), .ref (u 6), .ref (u 7), .int 0, .int 0, .int 0])), (u 0, .inl (cs.1, 160, .inl (fun _ => 0))), (u 1, .inl (cs.1, 160, .inl (fun _ => 0))), (u 2, .inl (cs.1, 160, .inl (fun _ => 0))), (u 3, .inl (cs.1, 960, .inl (fun _ => 0))), (u 4, .inl (cs.1, 160, .inl (fun _ => 0))), (u 5, .inl (cs.2.1, 160, .inl (fun _ => 0))), (u 6, .inl (cs.1, 160, .inl (fun _ => 0))), (u 7, .inl (cs.1, 160, .inl (fun _ => 0)))]
abbrev rm_X1_init : Room := { frames := 1, cells := 8, slots := 2080, locals := 12 }
theorem in_X1_init : ∀ w ∈ wsX10, w ∈ wsX1_init := by decide +kernel
set_option maxHeartbeats 4000000 in
set_option maxRecDepth 100000 in
theorem c_X1_init (l : Launch) (D : va_G) (cs : CS) (h0 : Nat) (p0 : Nat) (p1 : Nat) (p2 : Nat) (sz : Nat) : Met l yX1_init wsX1_init rm_X1_init (va_Pc [.ref h0, .ref p0, .ref p1, .ref p2] (CI D cs [(h0, .inr (1, [.null, .null, .null, .null, .null, .null, .null, .null, .null, .null, .null, .int 0, .int 0, .int 0]))] sz)) (CO D cs [(h0, .inr (1, [.null, .null, .null, .null, .null, .null, .null, .null, .null, .null, .null, .int 0, .int 0, .int 0]))] sz (w1_X1 D cs h0 p0 p1 p2)) 8 2080 (va_A [(h0, .inr (1, [.null, .null, .null, .null, .null, .null, .null, .null, .null, .null, .null, .int 0, .int 0, .int 0]))] sz) := by
  refine Met.ofW (cc := cX1_init) (maxL := 4) (ret := none) (by decide) rfl ?_
  intro p e s m args below meth c s₁ B hml hv
  obtain ⟨rfl, hsz, hP, hK, hD0, hN0⟩ := hv
  have F : CallFix p m c cX1_init 4 s _ wsX1_init RX1 := ⟨B.exec, B.bytes, hml, findClass_of_methodNamed B.named, atoms_spec (ws := wsX1_init) B.pre⟩
  have hr := B.returns
  have hlk := B.notSynchronized
  have hin : meth.name = "<init>" := (name_of_methodNamed B.named B.method).1
  subst hsz
  have hD := hD0.self (sz := s.heap.size)
  have hA : ∀ q : Nat, s.heap.size ≤ q → va_A [(h0, .inr (1, [.null, .null, .null, .null, .null, .null, .null, .null, .null, .null, .null, .int 0, .int 0, .int 0]))] s.heap.size q := fun q h => Or.inr h
  have hS : va_S (va_A [(h0, .inr (1, [.null, .null, .null, .null, .null, .null, .null, .null, .null, .null, .null, .int 0, .int 0, .int 0]))] s.heap.size) s.heap s.heap [] := va_S.rf
  have hl := lv_entry ([.ref h0, .ref p0, .ref p1, .ref p2]) (n := 4) (Nat.le_of_ble_eq_true rfl)
  rw [lg_entry_eq]
  generalize (lg_sl ([.ref h0, .ref p0, .ref p1, .ref p2]) ++ List.replicate (4 - (lg_sl ([.ref h0, .ref p0, .ref p1, .ref p2])).length) Slot.unset).toArray = ls at hl ⊢
  have hl : lv_has ls 4 [(0, .ref h0), (1, .ref p0), (2, .ref p1), (3, .ref p2)] := hl
  obtain ⟨w0, e0⟩ : ∃ w : va_W, w = [] := ⟨_, rfl⟩
  have hP : va_P D vwCl ((h0, .inr (1, [.null, .null, .null, .null, .null, .null, .null, .null, .null, .null, .null, .int 0, .int 0, .int 0])) :: w0) s.heap := by rw [e0]; exact hP
  have hD : va_D (va_A [(h0, .inr (1, [.null, .null, .null, .null, .null, .null, .null, .null, .null, .null, .null, .int 0, .int 0, .int 0]))] s.heap.size) ((h0, .inr (1, [.null, .null, .null, .null, .null, .null, .null, .null, .null, .null, .null, .int 0, .int 0, .int 0])) :: w0) := by rw [e0]; exact hD
  refine lv_aload_n F.1 F.2.1 dX1_init_0 rfl (lv_at hl 0 rfl) ?_
  refine W.objInit F.1 F.2.1 F.2.2.2.1 (F.2.2.2.2 (.methodLink RX1 3 objectInit) (by decide +kernel)) (F.2.2.2.2 (.instanceMethod objectInit) (by decide +kernel)) (F.2.2.2.2 (.code objectInit ⟨#[0xb1]⟩ 1 none) (by decide +kernel)) rfl (F.2.2.1 ▸ hl.1) rfl dX1_init_1 (Nat.le_of_ble_eq_true rfl) (Nat.le_of_ble_eq_true rfl) ?_
  refine W.eq (g2 := F0 m 4 ls []) rfl ?_
  refine lv_aload_n F.1 F.2.1 dX1_init_4 rfl (lv_at hl 0 rfl) ?_
  refine lv_sipush (v := 160) F.1 F.2.1 dX1_init_5 (by decide) ?_
  refine nw_int F (by decide +kernel) hK hP hD hS hA (N := 160) (by decide) (by decide) (by decide) 1 160 (by decide) (by decide) dX1_init_8 (fun q8 H hP hD hS => ?_)
  obtain ⟨w1, e1⟩ : ∃ w : va_W, w = w0 ++ [(q8, .inl (cs.1, 160, .inl (fun _ => 0)))] := ⟨_, rfl⟩
  have hP : va_P D vwCl ((h0, .inr (1, [.null, .null, .null, .null, .null, .null, .null, .null, .null, .null, .null, .int 0, .int 0, .int 0])) :: w1) H := by rw [e1]; exact hP
  have hD : va_D (va_A [(h0, .inr (1, [.null, .null, .null, .null, .null, .null, .null, .null, .null, .null, .null, .int 0, .int 0, .int 0]))] s.heap.size) ((h0, .inr (1, [.null, .null, .null, .null, .null, .null, .null, .null, .null, .null, .null, .int 0, .int 0, .int 0])) :: w1) := by rw [e1]; exact hD
  refine va_putF (D := D) (ci := 1) (v := .ref q8) (ty := .array .int) (C := RX1) (T := TX1) (N := 14) (own := RX1) F.1 F.2.1 F.2.2.2.2 in_X1_init tyX1 tyX1_ok nmX1 F.2.2.2.1 hK hP hD hS 0 rfl rfl 3 (by decide) (F.2.2.2.2 (.fieldLink RX1 9 "CellCover$Cover" "areaOf" "[I") (by decide +kernel)) (fun _ h9 => h9) rfl hin rfl (by decide +kernel) rfl rfl (Nat.le_of_ble_eq_true rfl) dX1_init_10 (fun H locs hP hD hS => ?_)
  have hP : va_P D vwCl ((h0, .inr (1, [.null, .null, .null, .ref q8, .null, .null, .null, .null, .null, .null, .null, .int 0, .int 0, .int 0])) :: w1) H := hP
  have hD : va_D (va_A [(h0, .inr (1, [.null, .null, .null, .null, .null, .null, .null, .null, .null, .null, .null, .int 0, .int 0, .int 0]))] s.heap.size) ((h0, .inr (1, [.null, .null, .null, .ref q8, .null, .null, .null, .null, .null, .null, .null, .int 0, .int 0, .int 0])) :: w1) := hD
  refine lv_aload_n F.1 F.2.1 dX1_init_13 rfl (lv_at hl 0 rfl) ?_
  refine lv_sipush (v := 160) F.1 F.2.1 dX1_init_14 (by decide) ?_
  refine nw_int F (by decide +kernel) hK hP hD hS hA (N := 160) (by decide) (by decide) (by decide) 2 320 (by decide) (by decide) dX1_init_17 (fun q17 H hP hD hS => ?_)
  obtain ⟨w2, e2⟩ : ∃ w : va_W, w = w1 ++ [(q17, .inl (cs.1, 160, .inl (fun _ => 0)))] := ⟨_, rfl⟩
  have hP : va_P D vwCl ((h0, .inr (1, [.null, .null, .null, .ref q8, .null, .null, .null, .null, .null, .null, .null, .int 0, .int 0, .int 0])) :: w2) H := by rw [e2]; exact hP
  have hD : va_D (va_A [(h0, .inr (1, [.null, .null, .null, .null, .null, .null, .null, .null, .null, .null, .null, .int 0, .int 0, .int 0]))] s.heap.size) ((h0, .inr (1, [.null, .null, .null, .ref q8, .null, .null, .null, .null, .null, .null, .null, .int 0, .int 0, .int 0])) :: w2) := by rw [e2]; exact hD
  refine va_putF (D := D) (ci := 1) (v := .ref q17) (ty := .array .int) (C := RX1) (T := TX1) (N := 14) (own := RX1) F.1 F.2.1 F.2.2.2.2 in_X1_init tyX1 tyX1_ok nmX1 F.2.2.2.1 hK hP hD hS 0 rfl rfl 4 (by decide) (F.2.2.2.2 (.fieldLink RX1 15 "CellCover$Cover" "arrivalOf" "[I") (by decide +kernel)) (fun _ h9 => h9) rfl hin rfl (by decide +kernel) rfl rfl (Nat.le_of_ble_eq_true rfl) dX1_init_19 (fun H locs hP hD hS => ?_)
  have hP : va_P D vwCl ((h0, .inr (1, [.null, .null, .null, .ref q8, .ref q17, .null, .null, .null, .null, .null, .null, .int 0, .int 0, .int 0])) :: w2) H := hP
  have hD : va_D (va_A [(h0, .inr (1, [.null, .null, .null, .null, .null, .null, .null, .null, .null, .null, .null, .int 0, .int 0, .int 0]))] s.heap.size) ((h0, .inr (1, [.null, .null, .null, .ref q8, .ref q17, .null, .null, .null, .null, .null, .null, .int 0, .int 0, .int 0])) :: w2) := hD
  refine lv_aload_n F.1 F.2.1 dX1_init_22 rfl (lv_at hl 0 rfl) ?_
  refine lv_sipush (v := 160) F.1 F.2.1 dX1_init_23 (by decide) ?_
  refine nw_int F (by decide +kernel) hK hP hD hS hA (N := 160) (by decide) (by decide) (by decide) 3 480 (by decide) (by decide) dX1_init_26 (fun q26 H hP hD hS => ?_)
  obtain ⟨w3, e3⟩ : ∃ w : va_W, w = w2 ++ [(q26, .inl (cs.1, 160, .inl (fun _ => 0)))] := ⟨_, rfl⟩
  have hP : va_P D vwCl ((h0, .inr (1, [.null, .null, .null, .ref q8, .ref q17, .null, .null, .null, .null, .null, .null, .int 0, .int 0, .int 0])) :: w3) H := by rw [e3]; exact hP
  have hD : va_D (va_A [(h0, .inr (1, [.null, .null, .null, .null, .null, .null, .null, .null, .null, .null, .null, .int 0, .int 0, .int 0]))] s.heap.size) ((h0, .inr (1, [.null, .null, .null, .ref q8, .ref q17, .null, .null, .null, .null, .null, .null, .int 0, .int 0, .int 0])) :: w3) := by rw [e3]; exact hD
  refine va_putF (D := D) (ci := 1) (v := .ref q26) (ty := .array .int) (C := RX1) (T := TX1) (N := 14) (own := RX1) F.1 F.2.1 F.2.2.2.2 in_X1_init tyX1 tyX1_ok nmX1 F.2.2.2.1 hK hP hD hS 0 rfl rfl 5 (by decide) (F.2.2.2.2 (.fieldLink RX1 18 "CellCover$Cover" "cellOf" "[I") (by decide +kernel)) (fun _ h9 => h9) rfl hin rfl (by decide +kernel) rfl rfl (Nat.le_of_ble_eq_true rfl) dX1_init_28 (fun H locs hP hD hS => ?_)
  have hP : va_P D vwCl ((h0, .inr (1, [.null, .null, .null, .ref q8, .ref q17, .ref q26, .null, .null, .null, .null, .null, .int 0, .int 0, .int 0])) :: w3) H := hP
  have hD : va_D (va_A [(h0, .inr (1, [.null, .null, .null, .null, .null, .null, .null, .null, .null, .null, .null, .int 0, .int 0, .int 0]))] s.heap.size) ((h0, .inr (1, [.null, .null, .null, .ref q8, .ref q17, .ref q26, .null, .null, .null, .null, .null, .int 0, .int 0, .int 0])) :: w3) := hD
  refine lv_aload_n F.1 F.2.1 dX1_init_31 rfl (lv_at hl 0 rfl) ?_
  refine lv_sipush (v := 960) F.1 F.2.1 dX1_init_32 (by decide) ?_
  refine nw_int F (by decide +kernel) hK hP hD hS hA (N := 960) (by decide) (by decide) (by decide) 4 1440 (by decide) (by decide) dX1_init_35 (fun q35 H hP hD hS => ?_)
  obtain ⟨w4, e4⟩ : ∃ w : va_W, w = w3 ++ [(q35, .inl (cs.1, 960, .inl (fun _ => 0)))] := ⟨_, rfl⟩
  have hP : va_P D vwCl ((h0, .inr (1, [.null, .null, .null, .ref q8, .ref q17, .ref q26, .null, .null, .null, .null, .null, .int 0, .int 0, .int 0])) :: w4) H := by rw [e4]; exact hP
  have hD : va_D (va_A [(h0, .inr (1, [.null, .null, .null, .null, .null, .null, .null, .null, .null, .null, .null, .int 0, .int 0, .int 0]))] s.heap.size) ((h0, .inr (1, [.null, .null, .null, .ref q8, .ref q17, .ref q26, .null, .null, .null, .null, .null, .int 0, .int 0, .int 0])) :: w4) := by rw [e4]; exact hD
  refine va_putF (D := D) (ci := 1) (v := .ref q35) (ty := .array .int) (C := RX1) (T := TX1) (N := 14) (own := RX1) F.1 F.2.1 F.2.2.2.2 in_X1_init tyX1 tyX1_ok nmX1 F.2.2.2.1 hK hP hD hS 0 rfl rfl 6 (by decide) (F.2.2.2.2 (.fieldLink RX1 21 "CellCover$Cover" "pinsOf" "[I") (by decide +kernel)) (fun _ h9 => h9) rfl hin rfl (by decide +kernel) rfl rfl (Nat.le_of_ble_eq_true rfl) dX1_init_37 (fun H locs hP hD hS => ?_)
  have hP : va_P D vwCl ((h0, .inr (1, [.null, .null, .null, .ref q8, .ref q17, .ref q26, .ref q35, .null, .null, .null, .null, .int 0, .int 0, .int 0])) :: w4) H := hP
  have hD : va_D (va_A [(h0, .inr (1, [.null, .null, .null, .null, .null, .null, .null, .null, .null, .null, .null, .int 0, .int 0, .int 0]))] s.heap.size) ((h0, .inr (1, [.null, .null, .null, .ref q8, .ref q17, .ref q26, .ref q35, .null, .null, .null, .null, .int 0, .int 0, .int 0])) :: w4) := hD
  refine lv_aload_n F.1 F.2.1 dX1_init_40 rfl (lv_at hl 0 rfl) ?_
  refine lv_sipush (v := 160) F.1 F.2.1 dX1_init_41 (by decide) ?_
  refine nw_int F (by decide +kernel) hK hP hD hS hA (N := 160) (by decide) (by decide) (by decide) 5 1600 (by decide) (by decide) dX1_init_44 (fun q44 H hP hD hS => ?_)
  obtain ⟨w5, e5⟩ : ∃ w : va_W, w = w4 ++ [(q44, .inl (cs.1, 160, .inl (fun _ => 0)))] := ⟨_, rfl⟩
  have hP : va_P D vwCl ((h0, .inr (1, [.null, .null, .null, .ref q8, .ref q17, .ref q26, .ref q35, .null, .null, .null, .null, .int 0, .int 0, .int 0])) :: w5) H := by rw [e5]; exact hP
  have hD : va_D (va_A [(h0, .inr (1, [.null, .null, .null, .null, .null, .null, .null, .null, .null, .null, .null, .int 0, .int 0, .int 0]))] s.heap.size) ((h0, .inr (1, [.null, .null, .null, .ref q8, .ref q17, .ref q26, .ref q35, .null, .null, .null, .null, .int 0, .int 0, .int 0])) :: w5) := by rw [e5]; exact hD
  refine va_putF (D := D) (ci := 1) (v := .ref q44) (ty := .array .int) (C := RX1) (T := TX1) (N := 14) (own := RX1) F.1 F.2.1 F.2.2.2.2 in_X1_init tyX1 tyX1_ok nmX1 F.2.2.2.1 hK hP hD hS 0 rfl rfl 7 (by decide) (F.2.2.2.2 (.fieldLink RX1 24 "CellCover$Cover" "instanceAt" "[I") (by decide +kernel)) (fun _ h9 => h9) rfl hin rfl (by decide +kernel) rfl rfl (Nat.le_of_ble_eq_true rfl) dX1_init_46 (fun H locs hP hD hS => ?_)
  have hP : va_P D vwCl ((h0, .inr (1, [.null, .null, .null, .ref q8, .ref q17, .ref q26, .ref q35, .ref q44, .null, .null, .null, .int 0, .int 0, .int 0])) :: w5) H := hP
  have hD : va_D (va_A [(h0, .inr (1, [.null, .null, .null, .null, .null, .null, .null, .null, .null, .null, .null, .int 0, .int 0, .int 0]))] s.heap.size) ((h0, .inr (1, [.null, .null, .null, .ref q8, .ref q17, .ref q26, .ref q35, .ref q44, .null, .null, .null, .int 0, .int 0, .int 0])) :: w5) := hD
  refine lv_aload_n F.1 F.2.1 dX1_init_49 rfl (lv_at hl 0 rfl) ?_
  refine lv_sipush (v := 160) F.1 F.2.1 dX1_init_50 (by decide) ?_
  refine nw_bool F (by decide +kernel) hK hP hD hS hA (N := 160) (by decide) (by decide) (by decide) 6 1760 (by decide) (by decide) dX1_init_53 (fun q53 H hP hD hS => ?_)
  obtain ⟨w6, e6⟩ : ∃ w : va_W, w = w5 ++ [(q53, .inl (cs.2.1, 160, .inl (fun _ => 0)))] := ⟨_, rfl⟩
  have hP : va_P D vwCl ((h0, .inr (1, [.null, .null, .null, .ref q8, .ref q17, .ref q26, .ref q35, .ref q44, .null, .null, .null, .int 0, .int 0, .int 0])) :: w6) H := by rw [e6]; exact hP
  have hD : va_D (va_A [(h0, .inr (1, [.null, .null, .null, .null, .null, .null, .null, .null, .null, .null, .null, .int 0, .int 0, .int 0]))] s.heap.size) ((h0, .inr (1, [.null, .null, .null, .ref q8, .ref q17, .ref q26, .ref q35, .ref q44, .null, .null, .null, .int 0, .int 0, .int 0])) :: w6) := by rw [e6]; exact hD
  refine va_putF (D := D) (ci := 1) (v := .ref q53) (ty := .array .boolean) (C := RX1) (T := TX1) (N := 14) (own := RX1) F.1 F.2.1 F.2.2.2.2 in_X1_init tyX1 tyX1_ok nmX1 F.2.2.2.1 hK hP hD hS 0 rfl rfl 8 (by decide) (F.2.2.2.2 (.fieldLink RX1 27 "CellCover$Cover" "stands" "[Z") (by decide +kernel)) (fun _ h9 => h9) rfl hin rfl (by decide +kernel) rfl rfl (Nat.le_of_ble_eq_true rfl) dX1_init_55 (fun H locs hP hD hS => ?_)
  have hP : va_P D vwCl ((h0, .inr (1, [.null, .null, .null, .ref q8, .ref q17, .ref q26, .ref q35, .ref q44, .ref q53, .null, .null, .int 0, .int 0, .int 0])) :: w6) H := hP
  have hD : va_D (va_A [(h0, .inr (1, [.null, .null, .null, .null, .null, .null, .null, .null, .null, .null, .null, .int 0, .int 0, .int 0]))] s.heap.size) ((h0, .inr (1, [.null, .null, .null, .ref q8, .ref q17, .ref q26, .ref q35, .ref q44, .ref q53, .null, .null, .int 0, .int 0, .int 0])) :: w6) := hD
  refine lv_aload_n F.1 F.2.1 dX1_init_58 rfl (lv_at hl 0 rfl) ?_
  refine lv_sipush (v := 160) F.1 F.2.1 dX1_init_59 (by decide) ?_
  refine nw_int F (by decide +kernel) hK hP hD hS hA (N := 160) (by decide) (by decide) (by decide) 7 1920 (by decide) (by decide) dX1_init_62 (fun q62 H hP hD hS => ?_)
  obtain ⟨w7, e7⟩ : ∃ w : va_W, w = w6 ++ [(q62, .inl (cs.1, 160, .inl (fun _ => 0)))] := ⟨_, rfl⟩
  have hP : va_P D vwCl ((h0, .inr (1, [.null, .null, .null, .ref q8, .ref q17, .ref q26, .ref q35, .ref q44, .ref q53, .null, .null, .int 0, .int 0, .int 0])) :: w7) H := by rw [e7]; exact hP
  have hD : va_D (va_A [(h0, .inr (1, [.null, .null, .null, .null, .null, .null, .null, .null, .null, .null, .null, .int 0, .int 0, .int 0]))] s.heap.size) ((h0, .inr (1, [.null, .null, .null, .ref q8, .ref q17, .ref q26, .ref q35, .ref q44, .ref q53, .null, .null, .int 0, .int 0, .int 0])) :: w7) := by rw [e7]; exact hD
  refine va_putF (D := D) (ci := 1) (v := .ref q62) (ty := .array .int) (C := RX1) (T := TX1) (N := 14) (own := RX1) F.1 F.2.1 F.2.2.2.2 in_X1_init tyX1 tyX1_ok nmX1 F.2.2.2.1 hK hP hD hS 0 rfl rfl 9 (by decide) (F.2.2.2.2 (.fieldLink RX1 31 "CellCover$Cover" "waiting" "[I") (by decide +kernel)) (fun _ h9 => h9) rfl hin rfl (by decide +kernel) rfl rfl (Nat.le_of_ble_eq_true rfl) dX1_init_64 (fun H locs hP hD hS => ?_)
  have hP : va_P D vwCl ((h0, .inr (1, [.null, .null, .null, .ref q8, .ref q17, .ref q26, .ref q35, .ref q44, .ref q53, .ref q62, .null, .int 0, .int 0, .int 0])) :: w7) H := hP
  have hD : va_D (va_A [(h0, .inr (1, [.null, .null, .null, .null, .null, .null, .null, .null, .null, .null, .null, .int 0, .int 0, .int 0]))] s.heap.size) ((h0, .inr (1, [.null, .null, .null, .ref q8, .ref q17, .ref q26, .ref q35, .ref q44, .ref q53, .ref q62, .null, .int 0, .int 0, .int 0])) :: w7) := hD
  refine lv_aload_n F.1 F.2.1 dX1_init_67 rfl (lv_at hl 0 rfl) ?_
  refine lv_sipush (v := 160) F.1 F.2.1 dX1_init_68 (by decide) ?_
  refine nw_int F (by decide +kernel) hK hP hD hS hA (N := 160) (by decide) (by decide) (by decide) 8 2080 (by decide) (by decide) dX1_init_71 (fun q71 H hP hD hS => ?_)
  obtain ⟨w8, e8⟩ : ∃ w : va_W, w = w7 ++ [(q71, .inl (cs.1, 160, .inl (fun _ => 0)))] := ⟨_, rfl⟩
  have hP : va_P D vwCl ((h0, .inr (1, [.null, .null, .null, .ref q8, .ref q17, .ref q26, .ref q35, .ref q44, .ref q53, .ref q62, .null, .int 0, .int 0, .int 0])) :: w8) H := by rw [e8]; exact hP
  have hD : va_D (va_A [(h0, .inr (1, [.null, .null, .null, .null, .null, .null, .null, .null, .null, .null, .null, .int 0, .int 0, .int 0]))] s.heap.size) ((h0, .inr (1, [.null, .null, .null, .ref q8, .ref q17, .ref q26, .ref q35, .ref q44, .ref q53, .ref q62, .null, .int 0, .int 0, .int 0])) :: w8) := by rw [e8]; exact hD
  refine va_putF (D := D) (ci := 1) (v := .ref q71) (ty := .array .int) (C := RX1) (T := TX1) (N := 14) (own := RX1) F.1 F.2.1 F.2.2.2.2 in_X1_init tyX1 tyX1_ok nmX1 F.2.2.2.1 hK hP hD hS 0 rfl rfl 10 (by decide) (F.2.2.2.2 (.fieldLink RX1 34 "CellCover$Cover" "value" "[I") (by decide +kernel)) (fun _ h9 => h9) rfl hin rfl (by decide +kernel) rfl rfl (Nat.le_of_ble_eq_true rfl) dX1_init_73 (fun H locs hP hD hS => ?_)
  have hP : va_P D vwCl ((h0, .inr (1, [.null, .null, .null, .ref q8, .ref q17, .ref q26, .ref q35, .ref q44, .ref q53, .ref q62, .ref q71, .int 0, .int 0, .int 0])) :: w8) H := hP
  have hD : va_D (va_A [(h0, .inr (1, [.null, .null, .null, .null, .null, .null, .null, .null, .null, .null, .null, .int 0, .int 0, .int 0]))] s.heap.size) ((h0, .inr (1, [.null, .null, .null, .ref q8, .ref q17, .ref q26, .ref q35, .ref q44, .ref q53, .ref q62, .ref q71, .int 0, .int 0, .int 0])) :: w8) := hD
  refine lv_aload_n F.1 F.2.1 dX1_init_76 rfl (lv_at hl 0 rfl) ?_
  refine lv_iconst (v := 0) F.1 F.2.1 dX1_init_77 (by decide) ?_
  refine va_put (D := D) (ci := 1) (v := .int 0) (ty := .int) (C := RX1) (T := TX1) (N := 14) (own := RX1) F.1 F.2.1 F.2.2.2.2 in_X1_init tyX1 tyX1_ok nmX1 F.2.2.2.1 hK hP hD hS 0 rfl rfl 11 (by decide) (F.2.2.2.2 (.fieldLink RX1 37 "CellCover$Cover" "instances" "I") (by decide +kernel)) (fun _ h9 => h9) rfl (by decide +kernel) rfl rfl (Nat.le_of_ble_eq_true rfl) dX1_init_78 (fun H locs hP hD hS => ?_)
  have hP : va_P D vwCl ((h0, .inr (1, [.null, .null, .null, .ref q8, .ref q17, .ref q26, .ref q35, .ref q44, .ref q53, .ref q62, .ref q71, .int 0, .int 0, .int 0])) :: w8) H := hP
  have hD : va_D (va_A [(h0, .inr (1, [.null, .null, .null, .null, .null, .null, .null, .null, .null, .null, .null, .int 0, .int 0, .int 0]))] s.heap.size) ((h0, .inr (1, [.null, .null, .null, .ref q8, .ref q17, .ref q26, .ref q35, .ref q44, .ref q53, .ref q62, .ref q71, .int 0, .int 0, .int 0])) :: w8) := hD
  refine lv_aload_n F.1 F.2.1 dX1_init_81 rfl (lv_at hl 0 rfl) ?_
  refine lv_iconst (v := 0) F.1 F.2.1 dX1_init_82 (by decide) ?_
  refine va_put (D := D) (ci := 1) (v := .int 0) (ty := .int) (C := RX1) (T := TX1) (N := 14) (own := RX1) F.1 F.2.1 F.2.2.2.2 in_X1_init tyX1 tyX1_ok nmX1 F.2.2.2.1 hK hP hD hS 0 rfl rfl 12 (by decide) (F.2.2.2.2 (.fieldLink RX1 41 "CellCover$Cover" "wholeArea" "I") (by decide +kernel)) (fun _ h9 => h9) rfl (by decide +kernel) rfl rfl (Nat.le_of_ble_eq_true rfl) dX1_init_83 (fun H locs hP hD hS => ?_)
  have hP : va_P D vwCl ((h0, .inr (1, [.null, .null, .null, .ref q8, .ref q17, .ref q26, .ref q35, .ref q44, .ref q53, .ref q62, .ref q71, .int 0, .int 0, .int 0])) :: w8) H := hP
  have hD : va_D (va_A [(h0, .inr (1, [.null, .null, .null, .null, .null, .null, .null, .null, .null, .null, .null, .int 0, .int 0, .int 0]))] s.heap.size) ((h0, .inr (1, [.null, .null, .null, .ref q8, .ref q17, .ref q26, .ref q35, .ref q44, .ref q53, .ref q62, .ref q71, .int 0, .int 0, .int 0])) :: w8) := hD
  refine lv_aload_n F.1 F.2.1 dX1_init_86 rfl (lv_at hl 0 rfl) ?_
  refine lv_iconst (v := 0) F.1 F.2.1 dX1_init_87 (by decide) ?_
  refine va_put (D := D) (ci := 1) (v := .int 0) (ty := .int) (C := RX1) (T := TX1) (N := 14) (own := RX1) F.1 F.2.1 F.2.2.2.2 in_X1_init tyX1 tyX1_ok nmX1 F.2.2.2.1 hK hP hD hS 0 rfl rfl 13 (by decide) (F.2.2.2.2 (.fieldLink RX1 44 "CellCover$Cover" "manner" "I") (by decide +kernel)) (fun _ h9 => h9) rfl (by decide +kernel) rfl rfl (Nat.le_of_ble_eq_true rfl) dX1_init_88 (fun H locs hP hD hS => ?_)
  have hP : va_P D vwCl ((h0, .inr (1, [.null, .null, .null, .ref q8, .ref q17, .ref q26, .ref q35, .ref q44, .ref q53, .ref q62, .ref q71, .int 0, .int 0, .int 0])) :: w8) H := hP
  have hD : va_D (va_A [(h0, .inr (1, [.null, .null, .null, .null, .null, .null, .null, .null, .null, .null, .null, .int 0, .int 0, .int 0]))] s.heap.size) ((h0, .inr (1, [.null, .null, .null, .ref q8, .ref q17, .ref q26, .ref q35, .ref q44, .ref q53, .ref q62, .ref q71, .int 0, .int 0, .int 0])) :: w8) := hD
  refine lv_aload_n F.1 F.2.1 dX1_init_91 rfl (lv_at hl 0 rfl) ?_
  refine lv_aload_n F.1 F.2.1 dX1_init_92 rfl (lv_at hl 1 rfl) ?_
  refine va_putF (D := D) (ci := 1) (v := .ref p0) (ty := .object "CellCover$Vertices") (C := RX1) (T := TX1) (N := 14) (own := RX1) F.1 F.2.1 F.2.2.2.2 in_X1_init tyX1 tyX1_ok nmX1 F.2.2.2.1 hK hP hD hS 0 rfl rfl 0 (by decide) (F.2.2.2.2 (.fieldLink RX1 47 "CellCover$Cover" "vertices" "LCellCover$Vertices;") (by decide +kernel)) (fun _ h9 => h9) rfl hin rfl (by decide +kernel) rfl rfl (Nat.le_of_ble_eq_true rfl) dX1_init_93 (fun H locs hP hD hS => ?_)
  have hP : va_P D vwCl ((h0, .inr (1, [.ref p0, .null, .null, .ref q8, .ref q17, .ref q26, .ref q35, .ref q44, .ref q53, .ref q62, .ref q71, .int 0, .int 0, .int 0])) :: w8) H := hP
  have hD : va_D (va_A [(h0, .inr (1, [.null, .null, .null, .null, .null, .null, .null, .null, .null, .null, .null, .int 0, .int 0, .int 0]))] s.heap.size) ((h0, .inr (1, [.ref p0, .null, .null, .ref q8, .ref q17, .ref q26, .ref q35, .ref q44, .ref q53, .ref q62, .ref q71, .int 0, .int 0, .int 0])) :: w8) := hD
  refine lv_aload_n F.1 F.2.1 dX1_init_96 rfl (lv_at hl 0 rfl) ?_
  refine lv_aload_n F.1 F.2.1 dX1_init_97 rfl (lv_at hl 2 rfl) ?_
  refine va_putF (D := D) (ci := 1) (v := .ref p1) (ty := .object "CellCover$Library") (C := RX1) (T := TX1) (N := 14) (own := RX1) F.1 F.2.1 F.2.2.2.2 in_X1_init tyX1 tyX1_ok nmX1 F.2.2.2.1 hK hP hD hS 0 rfl rfl 1 (by decide) (F.2.2.2.2 (.fieldLink RX1 51 "CellCover$Cover" "library" "LCellCover$Library;") (by decide +kernel)) (fun _ h9 => h9) rfl hin rfl (by decide +kernel) rfl rfl (Nat.le_of_ble_eq_true rfl) dX1_init_98 (fun H locs hP hD hS => ?_)
  have hP : va_P D vwCl ((h0, .inr (1, [.ref p0, .ref p1, .null, .ref q8, .ref q17, .ref q26, .ref q35, .ref q44, .ref q53, .ref q62, .ref q71, .int 0, .int 0, .int 0])) :: w8) H := hP
  have hD : va_D (va_A [(h0, .inr (1, [.null, .null, .null, .null, .null, .null, .null, .null, .null, .null, .null, .int 0, .int 0, .int 0]))] s.heap.size) ((h0, .inr (1, [.ref p0, .ref p1, .null, .ref q8, .ref q17, .ref q26, .ref q35, .ref q44, .ref q53, .ref q62, .ref q71, .int 0, .int 0, .int 0])) :: w8) := hD
  refine lv_aload_n F.1 F.2.1 dX1_init_101 rfl (lv_at hl 0 rfl) ?_
  refine lv_aload_n F.1 F.2.1 dX1_init_102 rfl (lv_at hl 3 rfl) ?_
  refine va_putF (D := D) (ci := 1) (v := .ref p2) (ty := .object "CellCover$Matcher") (C := RX1) (T := TX1) (N := 14) (own := RX1) F.1 F.2.1 F.2.2.2.2 in_X1_init tyX1 tyX1_ok nmX1 F.2.2.2.1 hK hP hD hS 0 rfl rfl 2 (by decide) (F.2.2.2.2 (.fieldLink RX1 55 "CellCover$Cover" "matcher" "LCellCover$Matcher;") (by decide +kernel)) (fun _ h9 => h9) rfl hin rfl (by decide +kernel) rfl rfl (Nat.le_of_ble_eq_true rfl) dX1_init_103 (fun H locs hP hD hS => ?_)
  have hP : va_P D vwCl ((h0, .inr (1, [.ref p0, .ref p1, .ref p2, .ref q8, .ref q17, .ref q26, .ref q35, .ref q44, .ref q53, .ref q62, .ref q71, .int 0, .int 0, .int 0])) :: w8) H := hP
  have hD : va_D (va_A [(h0, .inr (1, [.null, .null, .null, .null, .null, .null, .null, .null, .null, .null, .null, .int 0, .int 0, .int 0]))] s.heap.size) ((h0, .inr (1, [.ref p0, .ref p1, .ref p2, .ref q8, .ref q17, .ref q26, .ref q35, .ref q44, .ref q53, .ref q62, .ref q71, .int 0, .int 0, .int 0])) :: w8) := hD
  subst e0 e1 e2 e3 e4 e5 e6 e7 e8
  exact nw_ret F hr hlk hK (fun n => match n with | 0 => q8 | 1 => q17 | 2 => q26 | 3 => q35 | 4 => q44 | 5 => q53 | 6 => q62 | 7 => q71 | _ => 0) hP hD hS dX1_init_106 (by decide) (by decide)
