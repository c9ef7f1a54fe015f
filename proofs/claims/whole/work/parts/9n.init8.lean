def ad_X8 (q5 q16 q27 q38 q49 q64 q87 q110 : Nat) (u9 u20 u31 u42 u57 u80 u103 u114 : Nat → Nat) : Nat → Nat → Nat := fun k i => match k with
  | 0 => q5
  | 1 => q16
  | 2 => q27
  | 3 => q38
  | 4 => q49
  | 5 => (match i with | 0 => q64 | _ => q87)
  | 6 => q110
  | 7 => u42 (i + 1)
  | 8 => u9 0
  | 9 => u9 1
  | 10 => u9 2
  | 11 => u9 3
  | 12 => u9 4
  | 13 => u9 5
  | 14 => u20 0
  | 15 => u20 1
  | 16 => u20 2
  | 17 => u20 3
  | 18 => u20 4
  | 19 => u20 5
  | 20 => u20 6
  | 21 => u20 7
  | 22 => u31 0
  | 23 => u42 0
  | 24 => u57 0
  | 25 => u57 1
  | 26 => (match i with | 0 => u80 0 | _ => u103 0)
  | 27 => (match i with | 0 => u80 1 | _ => u103 1)
  | 28 => (match i with | 0 => u80 2 | _ => u103 2)
  | 29 => (match i with | 0 => u80 3 | _ => u103 3)
  | 30 => (match i with | 0 => u80 4 | _ => u103 4)
  | 31 => (match i with | 0 => u80 5 | _ => u103 5)
  | 32 => (match i with | 0 => u80 6 | _ => u103 6)
  | 33 => (match i with | 0 => u80 7 | _ => u103 7)
  | 34 => u114 0
  | 35 => u42 (i + 21)
  | _ => 0
abbrev w1_X8 (D : va_G) (cs : CS) (h0 : Nat) (u : Nat → Nat → Nat) : va_W := wl shC idsC (D, cs, adz h0 u) S0
abbrev rm_X8_init : Room := { frames := 3, cells := 83, slots := 6037, locals := 53 }
theorem in_X8_init : ∀ w ∈ wsX80, w ∈ wsX8_init := by decide +kernel
set_option maxHeartbeats 4000000 in
set_option maxRecDepth 100000 in
theorem c_X8_init (l : Launch) (D : va_G) (cs : CS) (h0 : Nat) (sz : Nat) : Met l yX8_init wsX8_init rm_X8_init (va_Pc [.ref h0] (CI D cs [(h0, .inr (8, [.null, .null, .null, .null, .null, .null, .null, .null, .int 0]))] sz)) (CO D cs [(h0, .inr (8, [.null, .null, .null, .null, .null, .null, .null, .null, .int 0]))] sz (w1_X8 D cs h0)) 83 6037 (va_A [(h0, .inr (8, [.null, .null, .null, .null, .null, .null, .null, .null, .int 0]))] sz) := by
  refine Met.ofW (cc := cX8_init) (maxL := 1) (ret := none) (by decide) rfl ?_
  intro p e s m args below meth c s₁ B hml hv
  obtain ⟨rfl, hsz, hP, hK, hD0, hN0⟩ := hv
  have F : CallFix p m c cX8_init 1 s _ wsX8_init RX8 := ⟨B.exec, B.bytes, hml, findClass_of_methodNamed B.named, atoms_spec (ws := wsX8_init) B.pre⟩
  have hr := B.returns
  have hlk := B.notSynchronized
  have hin : meth.name = "<init>" := (name_of_methodNamed B.named B.method).1
  subst hsz
  have hD := hD0.self (sz := s.heap.size)
  have hA : ∀ q : Nat, s.heap.size ≤ q → va_A [(h0, .inr (8, [.null, .null, .null, .null, .null, .null, .null, .null, .int 0]))] s.heap.size q := fun q h => Or.inr h
  have hS : va_S (va_A [(h0, .inr (8, [.null, .null, .null, .null, .null, .null, .null, .null, .int 0]))] s.heap.size) s.heap s.heap [] := va_S.rf
  have hl := lv_entry ([.ref h0]) (n := 1) (Nat.le_of_ble_eq_true rfl)
  rw [lg_entry_eq]
  generalize (lg_sl ([.ref h0]) ++ List.replicate (1 - (lg_sl ([.ref h0])).length) Slot.unset).toArray = ls at hl ⊢
  have hl : lv_has ls 1 [(0, .ref h0)] := hl
  obtain ⟨w0, e0⟩ : ∃ w : va_W, w = [] := ⟨_, rfl⟩
  have hP : va_P D vwCl ((h0, .inr (8, [.null, .null, .null, .null, .null, .null, .null, .null, .int 0])) :: w0) s.heap := by rw [e0]; exact hP
  have hD : va_D (va_A [(h0, .inr (8, [.null, .null, .null, .null, .null, .null, .null, .null, .int 0]))] s.heap.size) ((h0, .inr (8, [.null, .null, .null, .null, .null, .null, .null, .null, .int 0])) :: w0) := by rw [e0]; exact hD
  refine lv_aload_n F.1 F.2.1 dX8_init_0 rfl (lv_at hl 0 rfl) ?_
  refine W.objInit F.1 F.2.1 F.2.2.2.1 (F.2.2.2.2 (.methodLink RX8 3 objectInit) (by decide +kernel)) (F.2.2.2.2 (.instanceMethod objectInit) (by decide +kernel)) (F.2.2.2.2 (.code objectInit ⟨#[0xb1]⟩ 1 none) (by decide +kernel)) rfl (F.2.2.1 ▸ hl.1) rfl dX8_init_1 (Nat.le_of_ble_eq_true rfl) (Nat.le_of_ble_eq_true rfl) ?_
  refine W.eq (g2 := F0 m 4 ls []) rfl ?_
  refine lv_aload_n F.1 F.2.1 dX8_init_4 rfl (lv_at hl 0 rfl) ?_
  refine nw_new (ci := 7) (fs := [.null, .null, .null, .null, .null, .null, .int 0, .int 0, .int 0]) (C := RX7) (T := TX7) (N := 9) F (by decide +kernel) tyX7 tyX7_ok (by decide +kernel : Cond.classLink RX8 9 RX7 ∈ wsX8_init) (by decide +kernel : Cond.instantiable RX7 9 ∈ wsX8_init) (by decide +kernel : Cond.initialized RX7 ∈ wsX8_init) hK hP hD hS hA rfl (fun j hj => by rcases (show j = 0 ∨ j = 1 ∨ j = 2 ∨ j = 3 ∨ j = 4 ∨ j = 5 ∨ j = 6 ∨ j = 7 ∨ j = 8 by omega) with rfl | rfl | rfl | rfl | rfl | rfl | rfl | rfl | rfl <;> rfl) 1 9 (by decide) (by decide) dX8_init_5 (fun q5 H hP hD hS => ?_)
  refine lv_dup F.1 F.2.1 dX8_init_8 rfl ?_
  refine nw_callN (rest := [.ref q5, .ref h0]) F [] (c_X7_init l D cs q5  H.size) ⟨va_cnB 0 F.2.2.2.2 gX8_init_X7_init_n11 rfl rfl rfl hN0.2.1 (F.2.2.2.2 (.initialized RX7) (by decide +kernel)) (by decide +kernel) ⟨Nat.le_of_ble_eq_true rfl, Nat.le_of_ble_eq_true rfl⟩, rfl, (F.2.2.2.2 (.instanceMethod yX7_init) (by decide +kernel))⟩ hN0 hK hP hD hS hA [w0.length + 1] (List.range (w0.length + 1)) (lastC (x := (h0, .inr (8, [.null, .null, .null, .null, .null, .null, .null, .null, .int 0]))) (w := w0)) (lastR (x := (h0, .inr (8, [.null, .null, .null, .null, .null, .null, .null, .null, .int 0]))) (w := w0)) rfl (va_nd_range _) (last_dis _) rfl hl.1 rfl (Nat.le_of_ble_eq_true rfl) dX8_init_9 7 969 (by decide) (by decide) (fun u9 H locs hP hD hS => ?_)
  obtain ⟨w1, e1⟩ : ∃ w : va_W, w = w0 ++ w1_X7 D cs q5  u9 := ⟨_, rfl⟩
  have hP : va_P D vwCl ((h0, .inr (8, [.null, .null, .null, .null, .null, .null, .null, .null, .int 0])) :: w1) H := by rw [e1]; exact hP
  have hD : va_D (va_A [(h0, .inr (8, [.null, .null, .null, .null, .null, .null, .null, .null, .int 0]))] s.heap.size) ((h0, .inr (8, [.null, .null, .null, .null, .null, .null, .null, .null, .int 0])) :: w1) := by rw [e1]; exact hD
  refine va_putF (D := D) (ci := 8) (v := .ref q5) (ty := .object "CellCover$Vertices") (C := RX8) (T := TX8) (N := 9) (own := RX8) F.1 F.2.1 F.2.2.2.2 in_X8_init tyX8 tyX8_ok nmX8 F.2.2.2.1 hK hP hD hS 0 rfl rfl 0 (by decide) (F.2.2.2.2 (.fieldLink RX8 12 "CellCover" "vertices" "LCellCover$Vertices;") (by decide +kernel)) (fun _ h9 => h9) rfl hin rfl (by decide +kernel) rfl rfl (Nat.le_of_ble_eq_true rfl) dX8_init_12 (fun H locs hP hD hS => ?_)
  have hP : va_P D vwCl ((h0, .inr (8, [.ref q5, .null, .null, .null, .null, .null, .null, .null, .int 0])) :: w1) H := hP
  have hD : va_D (va_A [(h0, .inr (8, [.null, .null, .null, .null, .null, .null, .null, .null, .int 0]))] s.heap.size) ((h0, .inr (8, [.ref q5, .null, .null, .null, .null, .null, .null, .null, .int 0])) :: w1) := hD
  refine lv_aload_n F.1 F.2.1 dX8_init_15 rfl (lv_at hl 0 rfl) ?_
  refine nw_new (ci := 5) (fs := [.null, .null, .null, .null, .null, .null, .null, .null, .int 0, .int 0, .int 0]) (C := RX5) (T := TX5) (N := 11) F (by decide +kernel) tyX5 tyX5_ok (by decide +kernel : Cond.classLink RX8 16 RX5 ∈ wsX8_init) (by decide +kernel : Cond.instantiable RX5 11 ∈ wsX8_init) (by decide +kernel : Cond.initialized RX5 ∈ wsX8_init) hK hP hD hS hA rfl (fun j hj => by rcases (show j = 0 ∨ j = 1 ∨ j = 2 ∨ j = 3 ∨ j = 4 ∨ j = 5 ∨ j = 6 ∨ j = 7 ∨ j = 8 ∨ j = 9 ∨ j = 10 by omega) with rfl | rfl | rfl | rfl | rfl | rfl | rfl | rfl | rfl | rfl | rfl <;> rfl) 8 980 (by decide) (by decide) dX8_init_16 (fun q16 H hP hD hS => ?_)
  refine lv_dup F.1 F.2.1 dX8_init_19 rfl ?_
  refine nw_callN (rest := [.ref q16, .ref h0]) F [] (c_X5_init l D cs q16  H.size) ⟨va_cnB 0 F.2.2.2.2 gX8_init_X5_init_n18 rfl rfl rfl hN0.2.2.1 (F.2.2.2.2 (.initialized RX5) (by decide +kernel)) (by decide +kernel) ⟨Nat.le_of_ble_eq_true rfl, Nat.le_of_ble_eq_true rfl⟩, rfl, (F.2.2.2.2 (.instanceMethod yX5_init) (by decide +kernel))⟩ hN0 hK hP hD hS hA [w1.length + 1] (List.range (w1.length + 1)) (lastC (x := (h0, .inr (8, [.ref q5, .null, .null, .null, .null, .null, .null, .null, .int 0]))) (w := w1)) (lastR (x := (h0, .inr (8, [.ref q5, .null, .null, .null, .null, .null, .null, .null, .int 0]))) (w := w1)) rfl (va_nd_range _) (last_dis _) rfl hl.1 rfl (Nat.le_of_ble_eq_true rfl) dX8_init_20 16 1268 (by decide) (by decide) (fun u20 H locs hP hD hS => ?_)
  obtain ⟨w2, e2⟩ : ∃ w : va_W, w = w1 ++ w1_X5 D cs q16  u20 := ⟨_, rfl⟩
  have hP : va_P D vwCl ((h0, .inr (8, [.ref q5, .null, .null, .null, .null, .null, .null, .null, .int 0])) :: w2) H := by rw [e2]; exact hP
  have hD : va_D (va_A [(h0, .inr (8, [.null, .null, .null, .null, .null, .null, .null, .null, .int 0]))] s.heap.size) ((h0, .inr (8, [.ref q5, .null, .null, .null, .null, .null, .null, .null, .int 0])) :: w2) := by rw [e2]; exact hD
  refine va_putF (D := D) (ci := 8) (v := .ref q16) (ty := .object "CellCover$Net") (C := RX8) (T := TX8) (N := 9) (own := RX8) F.1 F.2.1 F.2.2.2.2 in_X8_init tyX8 tyX8_ok nmX8 F.2.2.2.1 hK hP hD hS 0 rfl rfl 1 (by decide) (F.2.2.2.2 (.fieldLink RX8 19 "CellCover" "net" "LCellCover$Net;") (by decide +kernel)) (fun _ h9 => h9) rfl hin rfl (by decide +kernel) rfl rfl (Nat.le_of_ble_eq_true rfl) dX8_init_23 (fun H locs hP hD hS => ?_)
  have hP : va_P D vwCl ((h0, .inr (8, [.ref q5, .ref q16, .null, .null, .null, .null, .null, .null, .int 0])) :: w2) H := hP
  have hD : va_D (va_A [(h0, .inr (8, [.null, .null, .null, .null, .null, .null, .null, .null, .int 0]))] s.heap.size) ((h0, .inr (8, [.ref q5, .ref q16, .null, .null, .null, .null, .null, .null, .int 0])) :: w2) := hD
  refine lv_aload_n F.1 F.2.1 dX8_init_26 rfl (lv_at hl 0 rfl) ?_
  refine nw_new (ci := 6) (fs := [.null, .int 0, .int 0, .int 0]) (C := RX6) (T := TX6) (N := 4) F (by decide +kernel) tyX6 tyX6_ok (by decide +kernel : Cond.classLink RX8 23 RX6 ∈ wsX8_init) (by decide +kernel : Cond.instantiable RX6 4 ∈ wsX8_init) (by decide +kernel : Cond.initialized RX6 ∈ wsX8_init) hK hP hD hS hA rfl (fun j hj => by rcases (show j = 0 ∨ j = 1 ∨ j = 2 ∨ j = 3 by omega) with rfl | rfl | rfl | rfl <;> rfl) 17 1272 (by decide) (by decide) dX8_init_27 (fun q27 H hP hD hS => ?_)
  refine lv_dup F.1 F.2.1 dX8_init_30 rfl ?_
  refine nw_callN (rest := [.ref q27, .ref h0]) F [] (c_X6_init l D cs q27  H.size) ⟨va_cnB 0 F.2.2.2.2 gX8_init_X6_init_n25 rfl rfl rfl hN0.2.2.2.1 (F.2.2.2.2 (.initialized RX6) (by decide +kernel)) (by decide +kernel) ⟨Nat.le_of_ble_eq_true rfl, Nat.le_of_ble_eq_true rfl⟩, rfl, (F.2.2.2.2 (.instanceMethod yX6_init) (by decide +kernel))⟩ hN0 hK hP hD hS hA [w2.length + 1] (List.range (w2.length + 1)) (lastC (x := (h0, .inr (8, [.ref q5, .ref q16, .null, .null, .null, .null, .null, .null, .int 0]))) (w := w2)) (lastR (x := (h0, .inr (8, [.ref q5, .ref q16, .null, .null, .null, .null, .null, .null, .int 0]))) (w := w2)) rfl (va_nd_range _) (last_dis _) rfl hl.1 rfl (Nat.le_of_ble_eq_true rfl) dX8_init_31 18 1332 (by decide) (by decide) (fun u31 H locs hP hD hS => ?_)
  obtain ⟨w3, e3⟩ : ∃ w : va_W, w = w2 ++ w1_X6 D cs q27  u31 := ⟨_, rfl⟩
  have hP : va_P D vwCl ((h0, .inr (8, [.ref q5, .ref q16, .null, .null, .null, .null, .null, .null, .int 0])) :: w3) H := by rw [e3]; exact hP
  have hD : va_D (va_A [(h0, .inr (8, [.null, .null, .null, .null, .null, .null, .null, .null, .int 0]))] s.heap.size) ((h0, .inr (8, [.ref q5, .ref q16, .null, .null, .null, .null, .null, .null, .int 0])) :: w3) := by rw [e3]; exact hD
  refine va_putF (D := D) (ci := 8) (v := .ref q27) (ty := .object "CellCover$Tape") (C := RX8) (T := TX8) (N := 9) (own := RX8) F.1 F.2.1 F.2.2.2.2 in_X8_init tyX8 tyX8_ok nmX8 F.2.2.2.1 hK hP hD hS 0 rfl rfl 2 (by decide) (F.2.2.2.2 (.fieldLink RX8 26 "CellCover" "tape" "LCellCover$Tape;") (by decide +kernel)) (fun _ h9 => h9) rfl hin rfl (by decide +kernel) rfl rfl (Nat.le_of_ble_eq_true rfl) dX8_init_34 (fun H locs hP hD hS => ?_)
  have hP : va_P D vwCl ((h0, .inr (8, [.ref q5, .ref q16, .ref q27, .null, .null, .null, .null, .null, .int 0])) :: w3) H := hP
  have hD : va_D (va_A [(h0, .inr (8, [.null, .null, .null, .null, .null, .null, .null, .null, .int 0]))] s.heap.size) ((h0, .inr (8, [.ref q5, .ref q16, .ref q27, .null, .null, .null, .null, .null, .int 0])) :: w3) := hD
  refine lv_aload_n F.1 F.2.1 dX8_init_37 rfl (lv_at hl 0 rfl) ?_
  refine nw_new (ci := 3) (fs := [.null, .int 0]) (C := RX3) (T := TX3) (N := 2) F (by decide +kernel) tyX3 tyX3_ok (by decide +kernel : Cond.classLink RX8 30 RX3 ∈ wsX8_init) (by decide +kernel : Cond.instantiable RX3 2 ∈ wsX8_init) (by decide +kernel : Cond.initialized RX3 ∈ wsX8_init) hK hP hD hS hA rfl (fun j hj => by rcases (show j = 0 ∨ j = 1 by omega) with rfl | rfl <;> rfl) 19 1334 (by decide) (by decide) dX8_init_38 (fun q38 H hP hD hS => ?_)
  refine lv_dup F.1 F.2.1 dX8_init_41 rfl ?_
  refine nw_call (rest := [.ref q38, .ref h0]) F [] (c_X3_init l D cs q38  H.size) (cwI 0 F.2.2.2.2 gX8_init_X3_init rfl rfl rfl (F.2.2.2.2 (.initialized RX3) (by decide +kernel)) (F.2.2.2.2 (.methodLink RX8 32 yX3_init) (by decide +kernel)) (F.2.2.2.2 (.instanceMethod yX3_init) (by decide +kernel)) rfl (by decide +kernel) ⟨Nat.le_of_ble_eq_true rfl, Nat.le_of_ble_eq_true rfl⟩) hN0 hK hP hD hS hA [w3.length + 1] (List.range (w3.length + 1)) (lastC (x := (h0, .inr (8, [.ref q5, .ref q16, .ref q27, .null, .null, .null, .null, .null, .int 0]))) (w := w3)) (lastR (x := (h0, .inr (8, [.ref q5, .ref q16, .ref q27, .null, .null, .null, .null, .null, .int 0]))) (w := w3)) rfl (va_nd_range _) (last_dis _) rfl hl.1 rfl (Nat.le_of_ble_eq_true rfl) dX8_init_42 60 1734 (by decide) (by decide) (fun u42 H locs hP hD hS => ?_)
  obtain ⟨w4, e4⟩ : ∃ w : va_W, w = w3 ++ w1_X3 D cs q38  u42 := ⟨_, rfl⟩
  have hP : va_P D vwCl ((h0, .inr (8, [.ref q5, .ref q16, .ref q27, .null, .null, .null, .null, .null, .int 0])) :: w4) H := by rw [e4]; exact hP
  have hD : va_D (va_A [(h0, .inr (8, [.null, .null, .null, .null, .null, .null, .null, .null, .int 0]))] s.heap.size) ((h0, .inr (8, [.ref q5, .ref q16, .ref q27, .null, .null, .null, .null, .null, .int 0])) :: w4) := by rw [e4]; exact hD
  refine va_putF (D := D) (ci := 8) (v := .ref q38) (ty := .object "CellCover$Library") (C := RX8) (T := TX8) (N := 9) (own := RX8) F.1 F.2.1 F.2.2.2.2 in_X8_init tyX8 tyX8_ok nmX8 F.2.2.2.1 hK hP hD hS 0 rfl rfl 3 (by decide) (F.2.2.2.2 (.fieldLink RX8 33 "CellCover" "library" "LCellCover$Library;") (by decide +kernel)) (fun _ h9 => h9) rfl hin rfl (by decide +kernel) rfl rfl (Nat.le_of_ble_eq_true rfl) dX8_init_45 (fun H locs hP hD hS => ?_)
  have hP : va_P D vwCl ((h0, .inr (8, [.ref q5, .ref q16, .ref q27, .ref q38, .null, .null, .null, .null, .int 0])) :: w4) H := hP
  have hD : va_D (va_A [(h0, .inr (8, [.null, .null, .null, .null, .null, .null, .null, .null, .int 0]))] s.heap.size) ((h0, .inr (8, [.ref q5, .ref q16, .ref q27, .ref q38, .null, .null, .null, .null, .int 0])) :: w4) := hD
  refine lv_aload_n F.1 F.2.1 dX8_init_48 rfl (lv_at hl 0 rfl) ?_
  refine nw_new (ci := 4) (fs := [.null, .null, .null, .null, .int 0, .int 0]) (C := RX4) (T := TX4) (N := 6) F (by decide +kernel) tyX4 tyX4_ok (by decide +kernel : Cond.classLink RX8 37 RX4 ∈ wsX8_init) (by decide +kernel : Cond.instantiable RX4 6 ∈ wsX8_init) (by decide +kernel : Cond.initialized RX4 ∈ wsX8_init) hK hP hD hS hA rfl (fun j hj => by rcases (show j = 0 ∨ j = 1 ∨ j = 2 ∨ j = 3 ∨ j = 4 ∨ j = 5 by omega) with rfl | rfl | rfl | rfl | rfl | rfl <;> rfl) 61 1740 (by decide) (by decide) dX8_init_49 (fun q49 H hP hD hS => ?_)
  refine lv_dup F.1 F.2.1 dX8_init_52 rfl ?_
  refine lv_aload_n F.1 F.2.1 dX8_init_53 rfl (lv_at hl 0 rfl) ?_
  refine va_get (D := D) (ci := 8) (C := RX8) (T := TX8) (N := 9) (own := RX8) (v := .ref q5) F.1 F.2.1 F.2.2.2.2 in_X8_init F.2.2.2.1 hK hP 0 rfl rfl 0 (by decide) (F.2.2.2.2 (.fieldLink RX8 12 "CellCover" "vertices" "LCellCover$Vertices;") (by decide +kernel)) (fun _ h9 => h9) rfl dX8_init_54 ?_
  refine nw_call (rest := [.ref q49, .ref h0]) F [.ref q5] (c_X4_init l D cs q49 q5 H.size) (cwI 1 F.2.2.2.2 gX8_init_X4_init rfl rfl rfl (F.2.2.2.2 (.initialized RX4) (by decide +kernel)) (F.2.2.2.2 (.methodLink RX8 39 yX4_init) (by decide +kernel)) (F.2.2.2.2 (.instanceMethod yX4_init) (by decide +kernel)) rfl (by decide +kernel) ⟨Nat.le_of_ble_eq_true rfl, Nat.le_of_ble_eq_true rfl⟩) hN0 hK hP hD hS hA [w4.length + 1] (List.range (w4.length + 1)) (lastC (x := (h0, .inr (8, [.ref q5, .ref q16, .ref q27, .ref q38, .null, .null, .null, .null, .int 0]))) (w := w4)) (lastR (x := (h0, .inr (8, [.ref q5, .ref q16, .ref q27, .ref q38, .null, .null, .null, .null, .int 0]))) (w := w4)) rfl (va_nd_range _) (last_dis _) rfl hl.1 rfl (Nat.le_of_ble_eq_true rfl) dX8_init_57 63 1759 (by decide) (by decide) (fun u57 H locs hP hD hS => ?_)
  obtain ⟨w5, e5⟩ : ∃ w : va_W, w = w4 ++ w1_X4 D cs q49 q5 u57 := ⟨_, rfl⟩
  have hP : va_P D vwCl ((h0, .inr (8, [.ref q5, .ref q16, .ref q27, .ref q38, .null, .null, .null, .null, .int 0])) :: w5) H := by rw [e5]; exact hP
  have hD : va_D (va_A [(h0, .inr (8, [.null, .null, .null, .null, .null, .null, .null, .null, .int 0]))] s.heap.size) ((h0, .inr (8, [.ref q5, .ref q16, .ref q27, .ref q38, .null, .null, .null, .null, .int 0])) :: w5) := by rw [e5]; exact hD
  refine va_putF (D := D) (ci := 8) (v := .ref q49) (ty := .object "CellCover$Matcher") (C := RX8) (T := TX8) (N := 9) (own := RX8) F.1 F.2.1 F.2.2.2.2 in_X8_init tyX8 tyX8_ok nmX8 F.2.2.2.1 hK hP hD hS 0 rfl rfl 4 (by decide) (F.2.2.2.2 (.fieldLink RX8 42 "CellCover" "matcher" "LCellCover$Matcher;") (by decide +kernel)) (fun _ h9 => h9) rfl hin rfl (by decide +kernel) rfl rfl (Nat.le_of_ble_eq_true rfl) dX8_init_60 (fun H locs hP hD hS => ?_)
  have hP : va_P D vwCl ((h0, .inr (8, [.ref q5, .ref q16, .ref q27, .ref q38, .ref q49, .null, .null, .null, .int 0])) :: w5) H := hP
  have hD : va_D (va_A [(h0, .inr (8, [.null, .null, .null, .null, .null, .null, .null, .null, .int 0]))] s.heap.size) ((h0, .inr (8, [.ref q5, .ref q16, .ref q27, .ref q38, .ref q49, .null, .null, .null, .int 0])) :: w5) := hD
  refine lv_aload_n F.1 F.2.1 dX8_init_63 rfl (lv_at hl 0 rfl) ?_
  refine nw_new (ci := 1) (fs := [.null, .null, .null, .null, .null, .null, .null, .null, .null, .null, .null, .int 0, .int 0, .int 0]) (C := RX1) (T := TX1) (N := 14) F (by decide +kernel) tyX1 tyX1_ok (by decide +kernel : Cond.classLink RX8 46 RX1 ∈ wsX8_init) (by decide +kernel : Cond.instantiable RX1 14 ∈ wsX8_init) (by decide +kernel : Cond.initialized RX1 ∈ wsX8_init) hK hP hD hS hA rfl (fun j hj => by rcases (show j = 0 ∨ j = 1 ∨ j = 2 ∨ j = 3 ∨ j = 4 ∨ j = 5 ∨ j = 6 ∨ j = 7 ∨ j = 8 ∨ j = 9 ∨ j = 10 ∨ j = 11 ∨ j = 12 ∨ j = 13 by omega) with rfl | rfl | rfl | rfl | rfl | rfl | rfl | rfl | rfl | rfl | rfl | rfl | rfl | rfl <;> rfl) 64 1773 (by decide) (by decide) dX8_init_64 (fun q64 H hP hD hS => ?_)
  refine lv_dup F.1 F.2.1 dX8_init_67 rfl ?_
  refine lv_aload_n F.1 F.2.1 dX8_init_68 rfl (lv_at hl 0 rfl) ?_
  refine va_get (D := D) (ci := 8) (C := RX8) (T := TX8) (N := 9) (own := RX8) (v := .ref q5) F.1 F.2.1 F.2.2.2.2 in_X8_init F.2.2.2.1 hK hP 0 rfl rfl 0 (by decide) (F.2.2.2.2 (.fieldLink RX8 12 "CellCover" "vertices" "LCellCover$Vertices;") (by decide +kernel)) (fun _ h9 => h9) rfl dX8_init_69 ?_
  refine lv_aload_n F.1 F.2.1 dX8_init_72 rfl (lv_at hl 0 rfl) ?_
  refine va_get (D := D) (ci := 8) (C := RX8) (T := TX8) (N := 9) (own := RX8) (v := .ref q38) F.1 F.2.1 F.2.2.2.2 in_X8_init F.2.2.2.1 hK hP 0 rfl rfl 3 (by decide) (F.2.2.2.2 (.fieldLink RX8 33 "CellCover" "library" "LCellCover$Library;") (by decide +kernel)) (fun _ h9 => h9) rfl dX8_init_73 ?_
  refine lv_aload_n F.1 F.2.1 dX8_init_76 rfl (lv_at hl 0 rfl) ?_
  refine va_get (D := D) (ci := 8) (C := RX8) (T := TX8) (N := 9) (own := RX8) (v := .ref q49) F.1 F.2.1 F.2.2.2.2 in_X8_init F.2.2.2.1 hK hP 0 rfl rfl 4 (by decide) (F.2.2.2.2 (.fieldLink RX8 42 "CellCover" "matcher" "LCellCover$Matcher;") (by decide +kernel)) (fun _ h9 => h9) rfl dX8_init_77 ?_
  refine nw_call (rest := [.ref q64, .ref h0]) F [.ref q5, .ref q38, .ref q49] (c_X1_init l D cs q64 q5 q38 q49 H.size) (cwI 3 F.2.2.2.2 gX8_init_X1_init rfl rfl rfl (F.2.2.2.2 (.initialized RX1) (by decide +kernel)) (F.2.2.2.2 (.methodLink RX8 48 yX1_init) (by decide +kernel)) (F.2.2.2.2 (.instanceMethod yX1_init) (by decide +kernel)) rfl (by decide +kernel) ⟨Nat.le_of_ble_eq_true rfl, Nat.le_of_ble_eq_true rfl⟩) hN0 hK hP hD hS hA [w5.length + 1] (List.range (w5.length + 1)) (lastC (x := (h0, .inr (8, [.ref q5, .ref q16, .ref q27, .ref q38, .ref q49, .null, .null, .null, .int 0]))) (w := w5)) (lastR (x := (h0, .inr (8, [.ref q5, .ref q16, .ref q27, .ref q38, .ref q49, .null, .null, .null, .int 0]))) (w := w5)) rfl (va_nd_range _) (last_dis _) rfl hl.1 rfl (Nat.le_of_ble_eq_true rfl) dX8_init_80 72 3853 (by decide) (by decide) (fun u80 H locs hP hD hS => ?_)
  obtain ⟨w6, e6⟩ : ∃ w : va_W, w = w5 ++ w1_X1 D cs q64 q5 q38 q49 u80 := ⟨_, rfl⟩
  have hP : va_P D vwCl ((h0, .inr (8, [.ref q5, .ref q16, .ref q27, .ref q38, .ref q49, .null, .null, .null, .int 0])) :: w6) H := by rw [e6]; exact hP
  have hD : va_D (va_A [(h0, .inr (8, [.null, .null, .null, .null, .null, .null, .null, .null, .int 0]))] s.heap.size) ((h0, .inr (8, [.ref q5, .ref q16, .ref q27, .ref q38, .ref q49, .null, .null, .null, .int 0])) :: w6) := by rw [e6]; exact hD
  refine va_putF (D := D) (ci := 8) (v := .ref q64) (ty := .object "CellCover$Cover") (C := RX8) (T := TX8) (N := 9) (own := RX8) F.1 F.2.1 F.2.2.2.2 in_X8_init tyX8 tyX8_ok nmX8 F.2.2.2.1 hK hP hD hS 0 rfl rfl 5 (by decide) (F.2.2.2.2 (.fieldLink RX8 51 "CellCover" "told" "LCellCover$Cover;") (by decide +kernel)) (fun _ h9 => h9) rfl hin rfl (by decide +kernel) rfl rfl (Nat.le_of_ble_eq_true rfl) dX8_init_83 (fun H locs hP hD hS => ?_)
  have hP : va_P D vwCl ((h0, .inr (8, [.ref q5, .ref q16, .ref q27, .ref q38, .ref q49, .ref q64, .null, .null, .int 0])) :: w6) H := hP
  have hD : va_D (va_A [(h0, .inr (8, [.null, .null, .null, .null, .null, .null, .null, .null, .int 0]))] s.heap.size) ((h0, .inr (8, [.ref q5, .ref q16, .ref q27, .ref q38, .ref q49, .ref q64, .null, .null, .int 0])) :: w6) := hD
  refine lv_aload_n F.1 F.2.1 dX8_init_86 rfl (lv_at hl 0 rfl) ?_
  refine nw_new (ci := 1) (fs := [.null, .null, .null, .null, .null, .null, .null, .null, .null, .null, .null, .int 0, .int 0, .int 0]) (C := RX1) (T := TX1) (N := 14) F (by decide +kernel) tyX1 tyX1_ok (by decide +kernel : Cond.classLink RX8 46 RX1 ∈ wsX8_init) (by decide +kernel : Cond.instantiable RX1 14 ∈ wsX8_init) (by decide +kernel : Cond.initialized RX1 ∈ wsX8_init) hK hP hD hS hA rfl (fun j hj => by rcases (show j = 0 ∨ j = 1 ∨ j = 2 ∨ j = 3 ∨ j = 4 ∨ j = 5 ∨ j = 6 ∨ j = 7 ∨ j = 8 ∨ j = 9 ∨ j = 10 ∨ j = 11 ∨ j = 12 ∨ j = 13 by omega) with rfl | rfl | rfl | rfl | rfl | rfl | rfl | rfl | rfl | rfl | rfl | rfl | rfl | rfl <;> rfl) 73 3867 (by decide) (by decide) dX8_init_87 (fun q87 H hP hD hS => ?_)
  refine lv_dup F.1 F.2.1 dX8_init_90 rfl ?_
  refine lv_aload_n F.1 F.2.1 dX8_init_91 rfl (lv_at hl 0 rfl) ?_
  refine va_get (D := D) (ci := 8) (C := RX8) (T := TX8) (N := 9) (own := RX8) (v := .ref q5) F.1 F.2.1 F.2.2.2.2 in_X8_init F.2.2.2.1 hK hP 0 rfl rfl 0 (by decide) (F.2.2.2.2 (.fieldLink RX8 12 "CellCover" "vertices" "LCellCover$Vertices;") (by decide +kernel)) (fun _ h9 => h9) rfl dX8_init_92 ?_
  refine lv_aload_n F.1 F.2.1 dX8_init_95 rfl (lv_at hl 0 rfl) ?_
  refine va_get (D := D) (ci := 8) (C := RX8) (T := TX8) (N := 9) (own := RX8) (v := .ref q38) F.1 F.2.1 F.2.2.2.2 in_X8_init F.2.2.2.1 hK hP 0 rfl rfl 3 (by decide) (F.2.2.2.2 (.fieldLink RX8 33 "CellCover" "library" "LCellCover$Library;") (by decide +kernel)) (fun _ h9 => h9) rfl dX8_init_96 ?_
  refine lv_aload_n F.1 F.2.1 dX8_init_99 rfl (lv_at hl 0 rfl) ?_
  refine va_get (D := D) (ci := 8) (C := RX8) (T := TX8) (N := 9) (own := RX8) (v := .ref q49) F.1 F.2.1 F.2.2.2.2 in_X8_init F.2.2.2.1 hK hP 0 rfl rfl 4 (by decide) (F.2.2.2.2 (.fieldLink RX8 42 "CellCover" "matcher" "LCellCover$Matcher;") (by decide +kernel)) (fun _ h9 => h9) rfl dX8_init_100 ?_
  refine nw_call (rest := [.ref q87, .ref h0]) F [.ref q5, .ref q38, .ref q49] (c_X1_init l D cs q87 q5 q38 q49 H.size) (cwI 3 F.2.2.2.2 gX8_init_X1_init rfl rfl rfl (F.2.2.2.2 (.initialized RX1) (by decide +kernel)) (F.2.2.2.2 (.methodLink RX8 48 yX1_init) (by decide +kernel)) (F.2.2.2.2 (.instanceMethod yX1_init) (by decide +kernel)) rfl (by decide +kernel) ⟨Nat.le_of_ble_eq_true rfl, Nat.le_of_ble_eq_true rfl⟩) hN0 hK hP hD hS hA [w6.length + 1] (List.range (w6.length + 1)) (lastC (x := (h0, .inr (8, [.ref q5, .ref q16, .ref q27, .ref q38, .ref q49, .ref q64, .null, .null, .int 0]))) (w := w6)) (lastR (x := (h0, .inr (8, [.ref q5, .ref q16, .ref q27, .ref q38, .ref q49, .ref q64, .null, .null, .int 0]))) (w := w6)) rfl (va_nd_range _) (last_dis _) rfl hl.1 rfl (Nat.le_of_ble_eq_true rfl) dX8_init_103 81 5947 (by decide) (by decide) (fun u103 H locs hP hD hS => ?_)
  obtain ⟨w7, e7⟩ : ∃ w : va_W, w = w6 ++ w1_X1 D cs q87 q5 q38 q49 u103 := ⟨_, rfl⟩
  have hP : va_P D vwCl ((h0, .inr (8, [.ref q5, .ref q16, .ref q27, .ref q38, .ref q49, .ref q64, .null, .null, .int 0])) :: w7) H := by rw [e7]; exact hP
  have hD : va_D (va_A [(h0, .inr (8, [.null, .null, .null, .null, .null, .null, .null, .null, .int 0]))] s.heap.size) ((h0, .inr (8, [.ref q5, .ref q16, .ref q27, .ref q38, .ref q49, .ref q64, .null, .null, .int 0])) :: w7) := by rw [e7]; exact hD
  refine va_putF (D := D) (ci := 8) (v := .ref q87) (ty := .object "CellCover$Cover") (C := RX8) (T := TX8) (N := 9) (own := RX8) F.1 F.2.1 F.2.2.2.2 in_X8_init tyX8 tyX8_ok nmX8 F.2.2.2.1 hK hP hD hS 0 rfl rfl 6 (by decide) (F.2.2.2.2 (.fieldLink RX8 55 "CellCover" "trial" "LCellCover$Cover;") (by decide +kernel)) (fun _ h9 => h9) rfl hin rfl (by decide +kernel) rfl rfl (Nat.le_of_ble_eq_true rfl) dX8_init_106 (fun H locs hP hD hS => ?_)
  have hP : va_P D vwCl ((h0, .inr (8, [.ref q5, .ref q16, .ref q27, .ref q38, .ref q49, .ref q64, .ref q87, .null, .int 0])) :: w7) H := hP
  have hD : va_D (va_A [(h0, .inr (8, [.null, .null, .null, .null, .null, .null, .null, .null, .int 0]))] s.heap.size) ((h0, .inr (8, [.ref q5, .ref q16, .ref q27, .ref q38, .ref q49, .ref q64, .ref q87, .null, .int 0])) :: w7) := hD
  refine lv_aload_n F.1 F.2.1 dX8_init_109 rfl (lv_at hl 0 rfl) ?_
  refine nw_new (ci := 2) (fs := [.null, .int 0]) (C := RX2) (T := TX2) (N := 2) F (by decide +kernel) tyX2 tyX2_ok (by decide +kernel : Cond.classLink RX8 58 RX2 ∈ wsX8_init) (by decide +kernel : Cond.instantiable RX2 2 ∈ wsX8_init) (by decide +kernel : Cond.initialized RX2 ∈ wsX8_init) hK hP hD hS hA rfl (fun j hj => by rcases (show j = 0 ∨ j = 1 by omega) with rfl | rfl <;> rfl) 82 5949 (by decide) (by decide) dX8_init_110 (fun q110 H hP hD hS => ?_)
  refine lv_dup F.1 F.2.1 dX8_init_113 rfl ?_
  refine nw_callN (rest := [.ref q110, .ref h0]) F [] (c_X2_init l D cs q110  H.size) ⟨va_cnB 0 F.2.2.2.2 gX8_init_X2_init_n60 rfl rfl rfl hN0.2.2.2.2.1 (F.2.2.2.2 (.initialized RX2) (by decide +kernel)) (by decide +kernel) ⟨Nat.le_of_ble_eq_true rfl, Nat.le_of_ble_eq_true rfl⟩, rfl, (F.2.2.2.2 (.instanceMethod yX2_init) (by decide +kernel))⟩ hN0 hK hP hD hS hA [w7.length + 1] (List.range (w7.length + 1)) (lastC (x := (h0, .inr (8, [.ref q5, .ref q16, .ref q27, .ref q38, .ref q49, .ref q64, .ref q87, .null, .int 0]))) (w := w7)) (lastR (x := (h0, .inr (8, [.ref q5, .ref q16, .ref q27, .ref q38, .ref q49, .ref q64, .ref q87, .null, .int 0]))) (w := w7)) rfl (va_nd_range _) (last_dis _) rfl hl.1 rfl (Nat.le_of_ble_eq_true rfl) dX8_init_114 83 6037 (by decide) (by decide) (fun u114 H locs hP hD hS => ?_)
  obtain ⟨w8, e8⟩ : ∃ w : va_W, w = w7 ++ w1_X2 D cs q110  u114 := ⟨_, rfl⟩
  have hP : va_P D vwCl ((h0, .inr (8, [.ref q5, .ref q16, .ref q27, .ref q38, .ref q49, .ref q64, .ref q87, .null, .int 0])) :: w8) H := by rw [e8]; exact hP
  have hD : va_D (va_A [(h0, .inr (8, [.null, .null, .null, .null, .null, .null, .null, .null, .int 0]))] s.heap.size) ((h0, .inr (8, [.ref q5, .ref q16, .ref q27, .ref q38, .ref q49, .ref q64, .ref q87, .null, .int 0])) :: w8) := by rw [e8]; exact hD
  refine va_putF (D := D) (ci := 8) (v := .ref q110) (ty := .object "CellCover$History") (C := RX8) (T := TX8) (N := 9) (own := RX8) F.1 F.2.1 F.2.2.2.2 in_X8_init tyX8 tyX8_ok nmX8 F.2.2.2.1 hK hP hD hS 0 rfl rfl 7 (by decide) (F.2.2.2.2 (.fieldLink RX8 61 "CellCover" "history" "LCellCover$History;") (by decide +kernel)) (fun _ h9 => h9) rfl hin rfl (by decide +kernel) rfl rfl (Nat.le_of_ble_eq_true rfl) dX8_init_117 (fun H locs hP hD hS => ?_)
  have hP : va_P D vwCl ((h0, .inr (8, [.ref q5, .ref q16, .ref q27, .ref q38, .ref q49, .ref q64, .ref q87, .ref q110, .int 0])) :: w8) H := hP
  have hD : va_D (va_A [(h0, .inr (8, [.null, .null, .null, .null, .null, .null, .null, .null, .int 0]))] s.heap.size) ((h0, .inr (8, [.ref q5, .ref q16, .ref q27, .ref q38, .ref q49, .ref q64, .ref q87, .ref q110, .int 0])) :: w8) := hD
  refine lv_aload_n F.1 F.2.1 dX8_init_120 rfl (lv_at hl 0 rfl) ?_
  refine lv_iconst (v := 0) F.1 F.2.1 dX8_init_121 (by decide) ?_
  refine va_put (D := D) (ci := 8) (v := .int 0) (ty := .boolean) (C := RX8) (T := TX8) (N := 9) (own := RX8) F.1 F.2.1 F.2.2.2.2 in_X8_init tyX8 tyX8_ok nmX8 F.2.2.2.1 hK hP hD hS 0 rfl rfl 8 (by decide) (F.2.2.2.2 (.fieldLink RX8 65 "CellCover" "covered" "Z") (by decide +kernel)) (fun _ h9 => h9) rfl (by decide +kernel) rfl rfl (Nat.le_of_ble_eq_true rfl) dX8_init_122 (fun H locs hP hD hS => ?_)
  have hP : va_P D vwCl ((h0, .inr (8, [.ref q5, .ref q16, .ref q27, .ref q38, .ref q49, .ref q64, .ref q87, .ref q110, .int 0])) :: w8) H := hP
  have hD : va_D (va_A [(h0, .inr (8, [.null, .null, .null, .null, .null, .null, .null, .null, .int 0]))] s.heap.size) ((h0, .inr (8, [.ref q5, .ref q16, .ref q27, .ref q38, .ref q49, .ref q64, .ref q87, .ref q110, .int 0])) :: w8) := hD
  have k0 : w1_X7 D cs q5 u9 = wl shC [(1, 0), (9, 0), (10, 0), (11, 0), (12, 0), (13, 0), (14, 0)] (D, cs, adz h0 (ad_X8 q5 q16 q27 q38 q49 q64 q87 q110 u9 u20 u31 u42 u57 u80 u103 u114)) S0 := rfl
  have k1 : w1_X5 D cs q16 u20 = wl shC [(2, 0), (15, 0), (16, 0), (17, 0), (18, 0), (19, 0), (20, 0), (21, 0), (22, 0)] (D, cs, adz h0 (ad_X8 q5 q16 q27 q38 q49 q64 q87 q110 u9 u20 u31 u42 u57 u80 u103 u114)) S0 := rfl
  have k2 : w1_X6 D cs q27 u31 = wl shC [(3, 0), (23, 0)] (D, cs, adz h0 (ad_X8 q5 q16 q27 q38 q49 q64 q87 q110 u9 u20 u31 u42 u57 u80 u103 u114)) S0 := rfl
  have k3 : w1_X3 D cs q38 u42 = wl shC id3 (D, cs, adz h0 (ad_X8 q5 q16 q27 q38 q49 q64 q87 q110 u9 u20 u31 u42 u57 u80 u103 u114)) S0 := by
    unfold id3
    rw [wl_ap, ← cwl_wl (G := (D, cs, adz h0 (ad_X8 q5 q16 q27 q38 q49 q64 q87 q110 u9 u20 u31 u42 u57 u80 u103 u114))) (u := u42) (fun _ => rfl) (fun _ => rfl) 20]
    rfl
  have k4 : w1_X4 D cs q49 q5 u57 = wl shC [(5, 0), (25, 0), (26, 0)] (D, cs, adz h0 (ad_X8 q5 q16 q27 q38 q49 q64 q87 q110 u9 u20 u31 u42 u57 u80 u103 u114)) S0 := rfl
  have k5 : w1_X1 D cs q64 q5 q38 q49 u80 = wl shC [(6, 0), (27, 0), (28, 0), (29, 0), (30, 0), (31, 0), (32, 0), (33, 0), (34, 0)] (D, cs, adz h0 (ad_X8 q5 q16 q27 q38 q49 q64 q87 q110 u9 u20 u31 u42 u57 u80 u103 u114)) S0 := rfl
  have k6 : w1_X1 D cs q87 q5 q38 q49 u103 = wl shC [(6, 1), (27, 1), (28, 1), (29, 1), (30, 1), (31, 1), (32, 1), (33, 1), (34, 1)] (D, cs, adz h0 (ad_X8 q5 q16 q27 q38 q49 q64 q87 q110 u9 u20 u31 u42 u57 u80 u103 u114)) S0 := rfl
  have k7 : w1_X2 D cs q110 u114 = wl shC [(7, 0), (35, 0)] (D, cs, adz h0 (ad_X8 q5 q16 q27 q38 q49 q64 q87 q110 u9 u20 u31 u42 u57 u80 u103 u114)) S0 := rfl
  have kk : ((h0, .inr (8, [.ref q5, .ref q16, .ref q27, .ref q38, .ref q49, .ref q64, .ref q87, .ref q110, .int 0])) :: w8) = wl shC (((((((([(0, 0)] ++ [(1, 0), (9, 0), (10, 0), (11, 0), (12, 0), (13, 0), (14, 0)]) ++ [(2, 0), (15, 0), (16, 0), (17, 0), (18, 0), (19, 0), (20, 0), (21, 0), (22, 0)]) ++ [(3, 0), (23, 0)]) ++ id3) ++ [(5, 0), (25, 0), (26, 0)]) ++ [(6, 0), (27, 0), (28, 0), (29, 0), (30, 0), (31, 0), (32, 0), (33, 0), (34, 0)]) ++ [(6, 1), (27, 1), (28, 1), (29, 1), (30, 1), (31, 1), (32, 1), (33, 1), (34, 1)]) ++ [(7, 0), (35, 0)]) (D, cs, adz h0 (ad_X8 q5 q16 q27 q38 q49 q64 q87 q110 u9 u20 u31 u42 u57 u80 u103 u114)) S0 := by
    rw [e8, e7, e6, e5, e4, e3, e2, e1, e0]
    rw [wl_ap, wl_ap, wl_ap, wl_ap, wl_ap, wl_ap, wl_ap, wl_ap]
    rw [← k0, ← k1, ← k2, ← k3, ← k4, ← k5, ← k6, ← k7]
    rfl
  rw [kk] at hP hD
  have hP := wl_P (G := (D, cs, adz h0 (ad_X8 q5 q16 q27 q38 q49 q64 q87 q110 u9 u20 u31 u42 u57 u80 u103 u114))) (b := idsC) hP (by decide +kernel)
  have hD := wl_Dp (G := (D, cs, adz h0 (ad_X8 q5 q16 q27 q38 q49 q64 q87 q110 u9 u20 u31 u42 u57 u80 u103 u114))) (b := idsC) hD ndC (by decide +kernel)
  exact nw_ret F hr hlk hK (ad_X8 q5 q16 q27 q38 q49 q64 q87 q110 u9 u20 u31 u42 u57 u80 u103 u114) hP hD hS dX8_init_125 (by decide) (by decide)
