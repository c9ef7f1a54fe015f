/-! Library's constructor: a loop that makes twenty cells -/
def cwl (cs : CS) (u : Nat → Nat) : Nat → va_W
  | 0 => []
  | i + 1 => cwl cs u i ++ [(u (i + 1), .inr (0, [.ref (u (i + 21)), .int 0, .int 0, .int 0, .int 0, .int 0, .int 0])), (u (i + 21), .inl (cs.1, 12, .inl (fun _ => 0)))]
theorem cwl_s (cs : CS) (u : Nat → Nat) (i : Nat) : cwl cs u (i + 1) = cwl cs u i ++ [(u (i + 1), .inr (0, [.ref (u (i + 21)), .int 0, .int 0, .int 0, .int 0, .int 0, .int 0])), (u (i + 21), .inl (cs.1, 12, .inl (fun _ => 0)))] := rfl
theorem cwl_cg {cs : CS} {u v : Nat → Nat} : ∀ {i : Nat}, (∀ j, j < i → u (j + 1) = v (j + 1) ∧ u (j + 21) = v (j + 21)) → cwl cs u i = cwl cs v i
  | 0, _ => rfl
  | i + 1, h => by
    unfold cwl
    rw [cwl_cg (i := i) (fun j hj => h j (by omega)), (h i (by omega)).1, (h i (by omega)).2]
theorem lastAt {α : Type} {x y z : α} {w r : List α} : ((x :: y :: w) ++ (z :: r))[(y :: w).length + 1]? = some z := by
  simp
abbrev hdL (h0 a : Nat) : Nat × va_E := (h0, .inr (3, [.ref a, .int 0]))
abbrev arL (cs : CS) (a : Nat) (f : Nat → Option Nat) : Nat × va_E := (a, .inl (cs.2.2, 20, .inr (.inr (.inr (.inr f)))))
abbrev rm_X3_init : Room := { frames := 2, cells := 41, slots := 400, locals := 32 }
theorem in_X3_init : ∀ w ∈ wsX30, w ∈ wsX3_init := by decide +kernel
theorem in_X3_init0 : ∀ w ∈ wsX00, w ∈ wsX3_init := by decide +kernel
set_option maxHeartbeats 4000000 in
set_option maxRecDepth 100000 in
theorem lib_loop {p : Program} {l : Launch} {e : Env} {s : State} {m : MethodId} {args : Array Value} {below : List Frame} {meth : Method} {c : Code} {D : va_G} {cs : CS} {A : Nat → Prop} {Q : State → Prop} (F : CallFix p m c cX3_init 2 s args wsX3_init RX3) (hK : va_K D vwCl (tyd cs) s) (hN0 : NW s) (h0 a : Nat) (hA : ∀ q, s.heap.size ≤ q → A q)
    (K : ∀ (H : Heap) (locs : List Loc) (u : Nat → Nat) (f : Nat → Option Nat), (∀ j, j < 20 → f j = some (u (j + 1))) → va_P D vwCl (hdL h0 a :: arL cs a f :: cwl cs u 20) H → va_D A (hdL h0 a :: arL cs a f :: cwl cs u 20) → va_S A s.heap H locs → ∀ ls, W p l e rm_X3_init s m args below meth c H locs 41 400 Q (F0 m 45 ls [])) :
    ∀ (n i : Nat), i + n = 20 → ∀ (u : Nat → Nat) (f : Nat → Option Nat) (H : Heap) (locs : List Loc) (ls : Array Slot), (∀ j, j < i → f j = some (u (j + 1))) → va_P D vwCl (hdL h0 a :: arL cs a f :: cwl cs u i) H → va_D A (hdL h0 a :: arL cs a f :: cwl cs u i) → va_S A s.heap H locs → lv_has ls 2 [(1, .int (nI i)), (0, .ref h0)] → W p l e rm_X3_init s m args below meth c H locs (1 + 2 * i) (20 + 19 * i) Q (F0 m 20 ls []) := by
  intro n
  induction n with
  | zero =>
    intro i hi u f H locs ls hf hP hD hS hl
    have hi : i = 20 := by omega
    subst hi
    refine lv_iload_n F.1 F.2.1 dX3_init_20 rfl (lv_at hl 0 rfl) ?_
    refine lv_bipush (v := 20) F.1 F.2.1 dX3_init_21 (by decide) ?_
    refine lv_icmp_ge (tgt := 45) F.1 F.2.1 dX3_init_23 (by decide) (fun _ => ?_) (fun h => ?_)
    · exact K H locs u f hf hP hD hS ls
    · exact absurd (show (20 : Int32) ≤ nI 20 by decide) h
  | succ n ih =>
    intro i hi u f H locs ls hf hP hD hS hl
    refine lv_iload_n F.1 F.2.1 dX3_init_20 rfl (lv_at hl 0 rfl) ?_
    refine lv_bipush (v := 20) F.1 F.2.1 dX3_init_21 (by decide) ?_
    refine lv_icmp_ge (tgt := 45) F.1 F.2.1 dX3_init_23 (by decide) (fun h => ?_) (fun _ => ?_)
    · exfalso
      have h2 := Int32.le_iff_toInt_le.mp h
      rw [nI_toInt (by omega)] at h2
      have h3 : (20 : Int32).toInt = 20 := by decide
      omega
    · refine lv_aload_n F.1 F.2.1 dX3_init_26 rfl (lv_at hl 1 rfl) ?_
      refine va_get (D := D) (ci := 3) (C := RX3) (T := TX3) (N := 2) (own := RX3) (v := .ref a) F.1 F.2.1 F.2.2.2.2 in_X3_init F.2.2.2.1 hK hP 0 rfl rfl 0 (by decide) (F.2.2.2.2 (.fieldLink RX3 11 "CellCover$Library" "cells" "[LCellCover$Cell;") (by decide +kernel)) (fun _ h9 => h9) rfl dX3_init_27 ?_
      refine lv_iload_n F.1 F.2.1 dX3_init_30 rfl (lv_at hl 0 rfl) ?_
      refine nw_new (ci := 0) (fs := [.null, .int 0, .int 0, .int 0, .int 0, .int 0, .int 0]) (C := RX0) (T := TX0) (N := 7) F in_X3_init0 tyX0 tyX0_ok (by decide +kernel : Cond.classLink RX3 9 RX0 ∈ wsX3_init) (by decide +kernel : Cond.instantiable RX0 7 ∈ wsX3_init) (by decide +kernel : Cond.initialized RX0 ∈ wsX3_init) hK hP hD hS hA rfl (fun j hj => by rcases (show j = 0 ∨ j = 1 ∨ j = 2 ∨ j = 3 ∨ j = 4 ∨ j = 5 ∨ j = 6 by omega) with rfl | rfl | rfl | rfl | rfl | rfl | rfl <;> rfl) (1 + 2 * i + 1) (20 + 19 * i + 7) (by show _ ≤ 41 ∧ _; omega) (by show _ ≤ 400 ∧ _; omega) dX3_init_31 (fun q H hP hD hS => ?_)
      refine lv_dup F.1 F.2.1 dX3_init_34 rfl ?_
      refine nw_callN (rest := [.ref q, .int (nI i), .ref a]) F [] (c_X0_init l D cs q H.size) ⟨va_cnB 0 F.2.2.2.2 gX3_init_X0_init_n21 rfl rfl rfl hN0.1 (F.2.2.2.2 (.initialized RX0) (by decide +kernel)) (by decide +kernel) ⟨Nat.le_of_ble_eq_true rfl, Nat.le_of_ble_eq_true rfl⟩, rfl, (F.2.2.2.2 (.instanceMethod yX0_init) (by decide +kernel))⟩ hN0 hK hP hD hS hA [(arL cs a f :: cwl cs u i).length + 1] (List.range ((arL cs a f :: cwl cs u i).length + 1)) (lastC (x := hdL h0 a) (w := arL cs a f :: cwl cs u i)) (lastR (x := hdL h0 a) (w := arL cs a f :: cwl cs u i)) rfl (va_nd_range _) (last_dis _) rfl hl.1 rfl (Nat.le_of_ble_eq_true rfl) dX3_init_35 (1 + 2 * (i + 1)) (20 + 19 * (i + 1)) (by show _ ≤ 41 ∧ _; omega) (by show _ ≤ 400 ∧ _; omega) (fun u0 H locs hP hD hS => ?_)
      refine va_astq F.1 F.2.1 hK hP hD hS 1 2 ((arL cs a f :: cwl cs u i).length + 1) 0 (r := (RX0, TX0, 7)) (f := f) rfl rfl (lastAt (x := hdL h0 a) (y := arL cs a f) (w := cwl cs u i)) rfl (ix_in (ix_nI (by omega) (by decide))) dX3_init_38 (fun H locs hP hD hS => ?_)
      rw [nI_clamp (by omega)] at hP hD
      refine lv_iinc (v := nI (i + 1)) (lv' := [(1, .int (nI (i + 1))), (0, .ref h0)]) F.1 F.2.1 dX3_init_39 hl (k := 0) rfl (nI_1 i) (by decide) rfl (fun ls hl => ?_)
      refine lv_goto (tgt := 20) F.1 F.2.1 dX3_init_42 (by decide) ?_
      have hw : cwl cs u i ++ w1_X0 D cs q u0 = cwl cs (fun k => if k = i + 1 then q else if k = i + 21 then u0 0 else u k) (i + 1) := by
        have hcg := cwl_cg (cs := cs) (u := u) (v := fun k => if k = i + 1 then q else if k = i + 21 then u0 0 else u k) (i := i) (fun j hj => ⟨by show _ = if j + 1 = i + 1 then q else if j + 1 = i + 21 then u0 0 else u (j + 1); rw [if_neg (by omega), if_neg (by omega)], by show _ = if j + 21 = i + 1 then q else if j + 21 = i + 21 then u0 0 else u (j + 21); rw [if_neg (by omega), if_neg (by omega)]⟩)
        rw [cwl_s, ← hcg, if_pos rfl, if_neg (by omega), if_pos rfl]
      have hP : va_P D vwCl (hdL h0 a :: arL cs a (va_up f i (some q)) :: (cwl cs u i ++ w1_X0 D cs q u0)) H := hP
      have hD : va_D A (hdL h0 a :: arL cs a (va_up f i (some q)) :: (cwl cs u i ++ w1_X0 D cs q u0)) := hD
      rw [hw] at hP hD
      refine ih (i + 1) (by omega) _ _ H locs ls (fun j hj => ?_) hP hD hS hl
      by_cases e : j = i
      · subst e
        rw [va_up_self, if_pos rfl]
      · rw [va_up_ne _ _ e, hf j (by omega), if_neg (by omega), if_neg (by omega)]
abbrev w1_X3 (_ : va_G) (cs : CS) (h0 : Nat) (u : Nat → Nat) : va_W := (h0, .inr (3, [.ref (u 0), .int 0])) :: (u 0, .inl (cs.2.2, 20, .inr (.inr (.inr (.inr (fun j => some (u (j + 1)))))))) :: cwl cs u 20
def u_X3 (a : Nat) (u : Nat → Nat) : Nat → Nat := fun n => match n with
  | 0 => a
  | n + 1 => u (n + 1)
set_option maxHeartbeats 4000000 in
set_option maxRecDepth 100000 in
theorem c_X3_init (l : Launch) (D : va_G) (cs : CS) (h0 : Nat) (sz : Nat) : Met l yX3_init wsX3_init rm_X3_init (va_Pc [.ref h0] (CI D cs [(h0, .inr (3, [.null, .int 0]))] sz)) (CO D cs [(h0, .inr (3, [.null, .int 0]))] sz (w1_X3 D cs h0)) 41 400 (va_A [(h0, .inr (3, [.null, .int 0]))] sz) := by
  refine Met.ofW (cc := cX3_init) (maxL := 2) (ret := none) (by decide) rfl ?_
  intro p e s m args below meth c s₁ B hml hv
  obtain ⟨rfl, hsz, hP, hK, hD0, hN0⟩ := hv
  have F : CallFix p m c cX3_init 2 s _ wsX3_init RX3 := ⟨B.exec, B.bytes, hml, findClass_of_methodNamed B.named, atoms_spec (ws := wsX3_init) B.pre⟩
  have hr := B.returns
  have hlk := B.notSynchronized
  have hin : meth.name = "<init>" := (name_of_methodNamed B.named B.method).1
  subst hsz
  have hD := hD0.self (sz := s.heap.size)
  have hA : ∀ q : Nat, s.heap.size ≤ q → va_A [(h0, .inr (3, [.null, .int 0]))] s.heap.size q := fun q h => Or.inr h
  have hS : va_S (va_A [(h0, .inr (3, [.null, .int 0]))] s.heap.size) s.heap s.heap [] := va_S.rf
  have hl := lv_entry ([.ref h0]) (n := 2) (Nat.le_of_ble_eq_true rfl)
  rw [lg_entry_eq]
  generalize (lg_sl ([.ref h0]) ++ List.replicate (2 - (lg_sl ([.ref h0])).length) Slot.unset).toArray = ls at hl ⊢
  have hl : lv_has ls 2 [(0, .ref h0)] := hl
  refine lv_aload_n F.1 F.2.1 dX3_init_0 rfl (lv_at hl 0 rfl) ?_
  refine W.objInit F.1 F.2.1 F.2.2.2.1 (F.2.2.2.2 (.methodLink RX3 3 objectInit) (by decide +kernel)) (F.2.2.2.2 (.instanceMethod objectInit) (by decide +kernel)) (F.2.2.2.2 (.code objectInit ⟨#[0xb1]⟩ 1 none) (by decide +kernel)) rfl (F.2.2.1 ▸ hl.1) rfl dX3_init_1 (Nat.le_of_ble_eq_true rfl) (Nat.le_of_ble_eq_true rfl) ?_
  refine W.eq (g2 := F0 m 4 ls []) rfl ?_
  refine lv_aload_n F.1 F.2.1 dX3_init_4 rfl (lv_at hl 0 rfl) ?_
  refine lv_bipush (v := 20) F.1 F.2.1 dX3_init_5 (by decide) ?_
  refine nw_ref F (by decide +kernel : Cond.classLink RX3 9 RX0 ∈ wsX3_init) hN0 hK hP hD hS hA (N := 20) (by decide) (by decide) (by decide) 1 20 (by decide) (by decide) dX3_init_7 (fun a H hP hD hS => ?_)
  refine va_putF (D := D) (ci := 3) (v := .ref a) (ty := .array (.object "CellCover$Cell")) (C := RX3) (T := TX3) (N := 2) (own := RX3) F.1 F.2.1 F.2.2.2.2 in_X3_init tyX3 tyX3_ok nmX3 F.2.2.2.1 hK hP hD hS 0 rfl rfl 0 (by decide) (F.2.2.2.2 (.fieldLink RX3 11 "CellCover$Library" "cells" "[LCellCover$Cell;") (by decide +kernel)) (fun _ h9 => h9) rfl hin rfl (by decide +kernel) rfl rfl (Nat.le_of_ble_eq_true rfl) dX3_init_10 (fun H locs hP hD hS => ?_)
  have hP : va_P D vwCl [hdL h0 a, arL cs a (fun _ => none)] H := hP
  have hD : va_D (va_A [(h0, .inr (3, [.null, .int 0]))] s.heap.size) [hdL h0 a, arL cs a (fun _ => none)] := hD
  refine lv_aload_n F.1 F.2.1 dX3_init_13 rfl (lv_at hl 0 rfl) ?_
  refine lv_iconst (v := 0) F.1 F.2.1 dX3_init_14 (by decide) ?_
  refine va_put (D := D) (ci := 3) (v := .int 0) (ty := .int) (C := RX3) (T := TX3) (N := 2) (own := RX3) F.1 F.2.1 F.2.2.2.2 in_X3_init tyX3 tyX3_ok nmX3 F.2.2.2.1 hK hP hD hS 0 rfl rfl 1 (by decide) (F.2.2.2.2 (.fieldLink RX3 17 "CellCover$Library" "many" "I") (by decide +kernel)) (fun _ h9 => h9) rfl (by decide +kernel) rfl rfl (Nat.le_of_ble_eq_true rfl) dX3_init_15 (fun H locs hP hD hS => ?_)
  have hP : va_P D vwCl [hdL h0 a, arL cs a (fun _ => none)] H := hP
  have hD : va_D (va_A [(h0, .inr (3, [.null, .int 0]))] s.heap.size) [hdL h0 a, arL cs a (fun _ => none)] := hD
  refine lv_iconst (v := 0) F.1 F.2.1 dX3_init_18 (by decide) ?_
  refine lv_istore_n (lv' := [(1, .int 0), (0, .ref h0)]) F.1 F.2.1 dX3_init_19 rfl hl (by decide) rfl (fun ls hl => ?_)
  refine lib_loop F hK hN0 h0 a hA (fun H locs u f hf hP hD hS ls => ?_) 20 0 rfl (fun _ => 0) (fun _ => none) H locs ls (fun j hj => absurd hj (Nat.not_lt_zero j)) hP hD hS (by rw [nI_0]; exact hl)
  have hP : va_P D vwCl (hdL h0 a :: arL cs a (fun j => some (u (j + 1))) :: cwl cs u 20) H := nw_cong (k := 1) (g := fun j => some (u (j + 1))) hP rfl hf
  have hD : va_D (va_A [(h0, .inr (3, [.null, .int 0]))] s.heap.size) (hdL h0 a :: arL cs a (fun j => some (u (j + 1))) :: cwl cs u 20) := nw_congD (k := 1) (e1 := .inl (cs.2.2, 20, .inr (.inr (.inr (.inr (fun j => some (u (j + 1)))))))) hD rfl
  have ew : cwl cs u 20 = cwl cs (u_X3 a u) 20 := cwl_cg (fun j _ => ⟨rfl, rfl⟩)
  rw [ew] at hP hD
  exact nw_ret F hr hlk hK (u_X3 a u) hP hD hS dX3_init_45 (by decide) (by decide)
/-! places in another order -/
def cid : Nat → List (Nat × Nat)
  | 0 => []
  | i + 1 => cid i ++ [(8, i), (36, i)]
def id3 : List (Nat × Nat) := [(4, 0), (24, 0)] ++ cid 20
theorem cwl_wl {G : GT} {u : Nat → Nat} (h8 : ∀ j, G.2.2 8 j = u (j + 1)) (h36 : ∀ j, G.2.2 36 j = u (j + 21)) : ∀ n, cwl G.2.1 u n = wl shC (cid n) G S0
  | 0 => rfl
  | n + 1 => by
    have e : wl shC (cid (n + 1)) G S0 = wl shC (cid n) G S0 ++ [(G.2.2 8 n, .inr (0, [.ref (G.2.2 36 n), .int 0, .int 0, .int 0, .int 0, .int 0, .int 0])), (G.2.2 36 n, .inl (G.2.1.1, 12, .inl (fun _ => 0)))] := by
      show ((cid n ++ [(8, n), (36, n)]).map _) = _
      rw [List.map_append]
      rfl
    rw [e, h8, h36, ← cwl_wl h8 h36 n]
    rfl
theorem wl_ap {sh : SH} {a b : List (Nat × Nat)} {G : GT} {S : St} : wl sh (a ++ b) G S = wl sh a G S ++ wl sh b G S := List.map_append
theorem wl_P {sh : SH} {a b : List (Nat × Nat)} {G : GT} {S : St} {H : Heap} (h : va_P G.1 vwCl (wl sh a G S) H) (hs : ∀ q ∈ b, q ∈ a) : va_P G.1 vwCl (wl sh b G S) H := by
  intro k q hk
  cases hb : b[k]? with
  | none => simp [wl, hb] at hk
  | some r =>
    obtain ⟨k2, i2⟩ := r
    rw [wl_at hb] at hk
    cases hk
    obtain ⟨j, hj⟩ := List.getElem?_of_mem (hs _ (List.mem_of_getElem? hb))
    exact h j _ (wl_at hj)
theorem wl_Dp {sh : SH} {a b : List (Nat × Nat)} {G : GT} {S : St} {A : Nat → Prop} (h : va_D A (wl sh a G S)) (hn : b.Nodup) (hs : ∀ q ∈ b, q ∈ a) : va_D A (wl sh b G S) := by
  have key : ∀ (k : Nat) (q : Nat × va_E), (wl sh b G S)[k]? = some q → ∃ (r : Nat × Nat) (j : Nat), b[k]? = some r ∧ a[j]? = some r ∧ (wl sh a G S)[j]? = some q := by
    intro k q hk
    cases hb : b[k]? with
    | none => simp [wl, hb] at hk
    | some r =>
      obtain ⟨k2, i2⟩ := r
      rw [wl_at hb] at hk
      obtain ⟨j, hj⟩ := List.getElem?_of_mem (hs _ (List.mem_of_getElem? hb))
      exact ⟨_, j, rfl, hj, by rw [wl_at hj]; exact hk⟩
  refine ⟨fun i j p q hi hj e => ?_, fun k q hk => ?_⟩
  · obtain ⟨r, i', h1, h2, h3⟩ := key i p hi
    obtain ⟨r', j', g1, g2, g3⟩ := key j q hj
    have e1 := h.1 i' j' p q h3 g3 e
    subst e1
    rw [h2] at g2
    cases g2
    exact (List.getElem?_inj (List.getElem?_eq_some_iff.mp h1).1 hn).mp (h1.trans g1.symm)
  · obtain ⟨r, j, -, -, h3⟩ := key k q hk
    exact h.2 j q h3
/-! the reference's constructor makes a row and keeps it, again and again -/
section M9
variable {p : Program} {l : Launch} {e : Env} {R : Room} {s : State} {m : MethodId} {args : Array Value} {below : List Frame} {meth : Method} {c : Code} {H : Heap} {locs : List Loc} {cells slots : Nat} {Q : State → Prop} {D : va_G} {cs : CS} {A : Nat → Prop} {ls : Array Slot} {pc idx h0 N : Nat} {n : Int32} {fs : List Value} {w : va_W}
theorem in_X9_init : ∀ w ∈ wsX90, w ∈ wsX9_init := by decide +kernel
theorem m_int (F : CallFix p m c cX9_init 1 s args wsX9_init RX9) (hin : meth.name = "<init>") (hK : va_K D vwCl (tyd cs) s) (hf : fs.length = 53) (hP : va_P D vwCl ((h0, .inr (9, fs)) :: w) H) (hD : va_D A ((h0, .inr (9, fs)) :: w)) (hS : va_S A s.heap H locs) (hA : ∀ q, s.heap.size ≤ q → A q) (k : Nat) (hk : k < 53) (hfin : (TX9 k).2.2.2 = true) (hdecl : (TX9 k).1 = RX9) (hd : parseFieldDescriptor (TX9 k).2.2.1 = some (.array .int)) (hlink : Cond.fieldLink RX9 idx (TX9 k).1 (TX9 k).2.1 (TX9 k).2.2.1 ∈ wsX9_init) (hn : ¬ n < 0) (hN : n.toNatClampNeg = N) (hbytes : N * componentBytes .int ≤ 536870912) (k2 n2 : Nat) (hcells : cells + 1 ≤ R.cells ∧ cells + 1 ≤ k2) (hslots : slots + N ≤ R.slots ∧ slots + N ≤ n2) (d1 : decode cX9_init pc = .ok (.newarray .int, 2)) (d2 : decode cX9_init (pc + 2) = .ok (.putfield idx, 3))
    (kk : ∀ (q : Nat) (fs' : List Value) (w' : va_W) (H1 : Heap) (locs1 : List Loc), fs' = fs.set k (.ref q) → w' = w ++ [(q, .inl (cs.1, N, .inl (fun _ => 0)))] → fs'.length = 53 → va_P D vwCl ((h0, .inr (9, fs')) :: w') H1 → va_D A ((h0, .inr (9, fs')) :: w') → va_S A s.heap H1 locs1 → W p l e R s m args below meth c H1 locs1 k2 n2 Q (F0 m (pc + 5) ls [])) : W p l e R s m args below meth c H locs cells slots Q (F0 m pc ls [.int n, .ref h0]) := by
  refine nw_int F (by decide +kernel) hK hP hD hS hA hn hN hbytes k2 n2 hcells hslots d1 (fun q H1 hP hD hS => ?_)
  refine va_putF (D := D) (ci := 9) (v := .ref q) (ty := .array .int) (C := RX9) (T := TX9) (N := 53) (own := RX9) F.1 F.2.1 F.2.2.2.2 in_X9_init tyX9 tyX9_ok nmX9 F.2.2.2.1 hK hP hD hS 0 rfl rfl k hk (F.2.2.2.2 _ hlink) (fun _ h9 => h9) hfin hin hdecl hd rfl rfl (by rw [hf]; exact hk) d2 (fun H2 locs2 hP hD hS => ?_)
  exact kk q _ _ H2 locs2 rfl rfl (by rw [List.length_set, hf]) hP hD hS
theorem m_bool (F : CallFix p m c cX9_init 1 s args wsX9_init RX9) (hin : meth.name = "<init>") (hK : va_K D vwCl (tyd cs) s) (hf : fs.length = 53) (hP : va_P D vwCl ((h0, .inr (9, fs)) :: w) H) (hD : va_D A ((h0, .inr (9, fs)) :: w)) (hS : va_S A s.heap H locs) (hA : ∀ q, s.heap.size ≤ q → A q) (k : Nat) (hk : k < 53) (hfin : (TX9 k).2.2.2 = true) (hdecl : (TX9 k).1 = RX9) (hd : parseFieldDescriptor (TX9 k).2.2.1 = some (.array .boolean)) (hlink : Cond.fieldLink RX9 idx (TX9 k).1 (TX9 k).2.1 (TX9 k).2.2.1 ∈ wsX9_init) (hn : ¬ n < 0) (hN : n.toNatClampNeg = N) (hbytes : N * componentBytes .boolean ≤ 536870912) (k2 n2 : Nat) (hcells : cells + 1 ≤ R.cells ∧ cells + 1 ≤ k2) (hslots : slots + N ≤ R.slots ∧ slots + N ≤ n2) (d1 : decode cX9_init pc = .ok (.newarray .boolean, 2)) (d2 : decode cX9_init (pc + 2) = .ok (.putfield idx, 3))
    (kk : ∀ (q : Nat) (fs' : List Value) (w' : va_W) (H1 : Heap) (locs1 : List Loc), fs' = fs.set k (.ref q) → w' = w ++ [(q, .inl (cs.2.1, N, .inl (fun _ => 0)))] → fs'.length = 53 → va_P D vwCl ((h0, .inr (9, fs')) :: w') H1 → va_D A ((h0, .inr (9, fs')) :: w') → va_S A s.heap H1 locs1 → W p l e R s m args below meth c H1 locs1 k2 n2 Q (F0 m (pc + 5) ls [])) : W p l e R s m args below meth c H locs cells slots Q (F0 m pc ls [.int n, .ref h0]) := by
  refine nw_bool F (by decide +kernel) hK hP hD hS hA hn hN hbytes k2 n2 hcells hslots d1 (fun q H1 hP hD hS => ?_)
  refine va_putF (D := D) (ci := 9) (v := .ref q) (ty := .array .boolean) (C := RX9) (T := TX9) (N := 53) (own := RX9) F.1 F.2.1 F.2.2.2.2 in_X9_init tyX9 tyX9_ok nmX9 F.2.2.2.1 hK hP hD hS 0 rfl rfl k hk (F.2.2.2.2 _ hlink) (fun _ h9 => h9) hfin hin hdecl hd rfl rfl (by rw [hf]; exact hk) d2 (fun H2 locs2 hP hD hS => ?_)
  exact kk q _ _ H2 locs2 rfl rfl (by rw [List.length_set, hf]) hP hD hS
end M9
