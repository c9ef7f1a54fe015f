/-! What the constructors need: new cells, and calls of constructors -/
abbrev CS : Type := ClassId × ClassId × ClassId
abbrev tyd (cs : CS) : List (ClassId × FieldType) := [(cs.1, .int), (cs.2.1, .boolean), (cs.2.2, .object "CellCover$Cell")]
/-- the words that no list of words can hold -/
def NW (U : State) : Prop := va_Nw (.methodLinkNest RX3 21 yX0_init RX8) U ∧ va_Nw (.methodLinkNest RX8 11 yX7_init RX8) U ∧ va_Nw (.methodLinkNest RX8 18 yX5_init RX8) U ∧ va_Nw (.methodLinkNest RX8 25 yX6_init RX8) U ∧ va_Nw (.methodLinkNest RX8 60 yX2_init RX8) U ∧ va_AO RX0 U
theorem NW_warm {s U : State} (hW : s.WarmedH U.vm) (h : NW s) : NW U := ⟨va_Nw.warmM hW h.1, va_Nw.warmM hW h.2.1, va_Nw.warmM hW h.2.2.1, va_Nw.warmM hW h.2.2.2.1, va_Nw.warmM hW h.2.2.2.2.1, va_AO.moved hW.alike h.2.2.2.2.2⟩
theorem NW_same {s U : State} (hv : s.vm = U.vm) (h : NW s) : NW U := ⟨va_Nw.same rfl hv h.1, va_Nw.same rfl hv h.2.1, va_Nw.same rfl hv h.2.2.1, va_Nw.same rfl hv h.2.2.2.1, va_Nw.same rfl hv h.2.2.2.2.1, va_AO.moved (by rw [hv]; exact Vm.Alike.refl _) h.2.2.2.2.2⟩
/-- a constructor's start and end -/
def CI (D : va_G) (cs : CS) (w0 : va_W) (sz : Nat) (U : State) : Prop := U.heap.size = sz ∧ va_P D vwCl w0 U.heap ∧ va_K D vwCl (tyd cs) U ∧ va_D (fun _ => True) w0 ∧ NW U
def CB {α : Type} (D : va_G) (cs : CS) (A : Nat → Prop) (w1 : α → va_W) (u : α) (t : State) : Prop := va_P D vwCl (w1 u) t.heap ∧ va_K D vwCl (tyd cs) t ∧ va_D A (w1 u)
def CO {α : Type} (D : va_G) (cs : CS) (w0 : va_W) (sz : Nat) (w1 : α → va_W) : Array Value → State → Outcome → State → Prop := va_Qv (fun _ : α => True) (CB D cs (va_A w0 sz) w1) (va_A w0 sz)
theorem CI_blind {D : va_G} {cs : CS} {w0 : va_W} {sz : Nat} (av : List Value) : FrameBlind (va_Pc av (CI D cs w0 sz)) := fun a U g mk q => by
  obtain ⟨q0, q1, qP, qK, qD, qN⟩ := q
  exact ⟨q0, q1, qP, va_K.moved (u := U) (U := U.calling g mk a) (Vm.Alike.refl U.vm) qK, qD, NW_same (s := U) rfl qN⟩
theorem fm_of {α : Type} {f : Nat → Option α} : ∀ {is : List Nat} {w : List α}, is.map f = w.map some → is.filterMap f = w
  | [], [], _ => rfl
  | [], _ :: _, h => by simp at h
  | _ :: _, [], h => by simp at h
  | i :: is, x :: w, h => by
    simp only [List.map_cons, List.cons.injEq] at h
    rw [List.filterMap_cons, h.1]
    simp only
    rw [fm_of h.2]
section NWS
variable {p : Program} {l : Launch} {e : Env} {R : Room} {s : State} {m : MethodId} {args : Array Value} {below : List Frame} {meth : Method} {c : Code} {H H0 : Heap} {locs : List Loc} {cells slots : Nat} {Q : State → Prop} {D : va_G} {cs : CS} {A : Nat → Prop} {ws : va_W} {cc : ByteArray} {nL : Nat} {Ts : List Cond} {own : String} {pc : Nat} {ls : Array Slot} {rest : List Value}
theorem nw_int (F : CallFix p m c cc nL s args Ts own) (harr : Cond.arrayClass .int ∈ Ts) (hK : va_K D vwCl (tyd cs) s) (hP : va_P D vwCl ws H) (hD : va_D A ws) (hS : va_S A H0 H locs) (hA : ∀ q, H0.size ≤ q → A q) {n : Int32} {N : Nat} (hn : ¬ n < 0) (hN : n.toNatClampNeg = N) (hbytes : N * componentBytes .int ≤ 536870912) (k2 n2 : Nat) (hcells : cells + 1 ≤ R.cells ∧ cells + 1 ≤ k2) (hslots : slots + N ≤ R.slots ∧ slots + N ≤ n2) (hdg : decode cc pc = .ok (.newarray .int, 2))
    (kk : ∀ (q : Nat) (H1 : Heap), va_P D vwCl (ws ++ [(q, .inl (cs.1, N, .inl (fun _ => 0)))]) H1 → va_D A (ws ++ [(q, .inl (cs.1, N, .inl (fun _ => 0)))]) → va_S A H0 H1 locs → W p l e R s m args below meth c H1 locs k2 n2 Q (F0 m (pc + 2) ls (.ref q :: rest))) : W p l e R s m args below meth c H locs cells slots Q (F0 m pc ls (.int n :: rest)) := by
  refine va_newa (atype := .int) F.1 F.2.1 (F.2.2.2.2 _ harr) rfl hK hP hD hS hA (a0 := (N, .inl (fun _ => 0))) (fun cA => rfl) hn hN hbytes hcells.1 hslots.1 hdg (fun q cA H1 hK1 hP1 hD1 hS1 => ?_)
  have h1 : s.vm.findClass ("[" ++ FieldType.int.toString) = some cs.1 := (hK.2 0 _ rfl).2
  have h2 : s.vm.findClass ("[" ++ FieldType.int.toString) = some cA := (hK1.2 3 _ rfl).2
  have e : cA = cs.1 := Option.some.inj (h2.symm.trans h1)
  rw [e] at hP1 hD1
  exact W.widen hcells.2 hslots.2 (kk q H1 hP1 hD1 hS1)
theorem nw_bool (F : CallFix p m c cc nL s args Ts own) (harr : Cond.arrayClass .boolean ∈ Ts) (hK : va_K D vwCl (tyd cs) s) (hP : va_P D vwCl ws H) (hD : va_D A ws) (hS : va_S A H0 H locs) (hA : ∀ q, H0.size ≤ q → A q) {n : Int32} {N : Nat} (hn : ¬ n < 0) (hN : n.toNatClampNeg = N) (hbytes : N * componentBytes .boolean ≤ 536870912) (k2 n2 : Nat) (hcells : cells + 1 ≤ R.cells ∧ cells + 1 ≤ k2) (hslots : slots + N ≤ R.slots ∧ slots + N ≤ n2) (hdg : decode cc pc = .ok (.newarray .boolean, 2))
    (kk : ∀ (q : Nat) (H1 : Heap), va_P D vwCl (ws ++ [(q, .inl (cs.2.1, N, .inl (fun _ => 0)))]) H1 → va_D A (ws ++ [(q, .inl (cs.2.1, N, .inl (fun _ => 0)))]) → va_S A H0 H1 locs → W p l e R s m args below meth c H1 locs k2 n2 Q (F0 m (pc + 2) ls (.ref q :: rest))) : W p l e R s m args below meth c H locs cells slots Q (F0 m pc ls (.int n :: rest)) := by
  refine va_newa (atype := .boolean) F.1 F.2.1 (F.2.2.2.2 _ harr) rfl hK hP hD hS hA (a0 := (N, .inl (fun _ => 0))) (fun cA => rfl) hn hN hbytes hcells.1 hslots.1 hdg (fun q cA H1 hK1 hP1 hD1 hS1 => ?_)
  have h1 : s.vm.findClass ("[" ++ FieldType.boolean.toString) = some cs.2.1 := (hK.2 1 _ rfl).2
  have h2 : s.vm.findClass ("[" ++ FieldType.boolean.toString) = some cA := (hK1.2 3 _ rfl).2
  have e : cA = cs.2.1 := Option.some.inj (h2.symm.trans h1)
  rw [e] at hP1 hD1
  exact W.widen hcells.2 hslots.2 (kk q H1 hP1 hD1 hS1)
theorem nw_ref (F : CallFix p m c cc nL s args Ts own) {index : Nat} (hcl : Cond.classLink own index RX0 ∈ Ts) (hN0 : NW s) (hK : va_K D vwCl (tyd cs) s) (hP : va_P D vwCl ws H) (hD : va_D A ws) (hS : va_S A H0 H locs) (hA : ∀ q, H0.size ≤ q → A q) {n : Int32} {N : Nat} (hn : ¬ n < 0) (hN : n.toNatClampNeg = N) (hbytes : N * 4 ≤ 536870912) (k2 n2 : Nat) (hcells : cells + 1 ≤ R.cells ∧ cells + 1 ≤ k2) (hslots : slots + N ≤ R.slots ∧ slots + N ≤ n2) (hdg : decode cc pc = .ok (.anewarray index, 3))
    (kk : ∀ (q : Nat) (H1 : Heap), va_P D vwCl (ws ++ [(q, .inl (cs.2.2, N, .inr (.inr (.inr (.inr (fun _ => none))))))]) H1 → va_D A (ws ++ [(q, .inl (cs.2.2, N, .inr (.inr (.inr (.inr (fun _ => none))))))]) → va_S A H0 H1 locs → W p l e R s m args below meth c H1 locs k2 n2 Q (F0 m (pc + 3) ls (.ref q :: rest))) : W p l e R s m args below meth c H locs cells slots Q (F0 m pc ls (.int n :: rest)) := by
  refine va_newq F.1 F.2.1 F.2.2.2.1 (F.2.2.2.2 _ hcl) hN0.2.2.2.2.2 hK hP hD hS hA hn hN hbytes hcells.1 hslots.1 hdg (fun q cA H1 hK1 hP1 hD1 hS1 => ?_)
  obtain ⟨_, _, _, _, _, h1⟩ : va_RA s cs.2.2 (.object "CellCover$Cell") := (hK.2 2 _ rfl).2
  obtain ⟨_, _, _, _, _, h2⟩ : va_RA s cA (.object "CellCover$Cell") := (hK1.2 3 _ rfl).2
  have e : cA = cs.2.2 := Option.some.inj (h2.symm.trans h1)
  rw [e] at hP1 hD1
  exact W.widen hcells.2 hslots.2 (kk q H1 hP1 hD1 hS1)
theorem nw_new (F : CallFix p m c cc nL s args Ts own) {C : String} {T : u_T} {N ci index : Nat} (hin : ∀ w ∈ u_ws C T N, w ∈ Ts) (ty : Nat → FieldType) (hty : ∀ k, k < N → parseFieldDescriptor (T k).2.2.1 = some (ty k)) (hcl : Cond.classLink own index C ∈ Ts) (hinst : Cond.instantiable C N ∈ Ts) (hini : Cond.initialized C ∈ Ts) (hK : va_K D vwCl (tyd cs) s) (hP : va_P D vwCl ws H) (hD : va_D A ws) (hS : va_S A H0 H locs) (hA : ∀ q, H0.size ≤ q → A q) (hc : vwCl[ci]? = some (C, T, N)) {fs : List Value} (hfs : ∀ j, j < N → defaultValue (ty j) = vp_V fs j) (k2 n2 : Nat) (hcells : cells + 1 ≤ R.cells ∧ cells + 1 ≤ k2) (hslots : slots + N ≤ R.slots ∧ slots + N ≤ n2) (hdg : decode cc pc = .ok (.new index, 3))
    (kk : ∀ (q : Nat) (H1 : Heap), va_P D vwCl (ws ++ [(q, .inr (ci, fs))]) H1 → va_D A (ws ++ [(q, .inr (ci, fs))]) → va_S A H0 H1 locs → W p l e R s m args below meth c H1 locs k2 n2 Q (F0 m (pc + 3) ls (.ref q :: rest))) : W p l e R s m args below meth c H locs cells slots Q (F0 m pc ls rest) :=
  va_new F.1 F.2.1 F.2.2.2.2 hin ty hty F.2.2.2.1 (F.2.2.2.2 _ hcl) (F.2.2.2.2 _ hinst) (F.2.2.2.2 _ hini) hK hP hD hS hA hc hfs hcells.1 hslots.1 hdg (fun q H1 hP1 hD1 hS1 => W.widen hcells.2 hslots.2 (kk q H1 hP1 hD1 hS1))
variable {y : MethodName} {bytes : ByteArray} {maxL n index mc ms : Nat} {wy : List Cond} {rm : Room} {b : Addr} {st : List Value} {α : Type}
theorem nw_call (F : CallFix p m c cc nL s args Ts own) (As : List Value) {w0 : va_W} {w1 : α → va_W} (hM : Met l y wy rm (va_Pc (.ref b :: As) (CI D cs w0 H.size)) (CO D cs w0 H.size w1) mc ms (va_A w0 H.size)) (cw : CallB R s args own index y bytes maxL none wy rm mc ms n ∧ y.name = "<init>" ∧ (Cond.instanceMethod y).before args s = true) (hN0 : NW s) (hK : va_K D vwCl (tyd cs) s) (hP : va_P D vwCl ws H) (hD : va_D A ws) (hS : va_S A H0 H locs) (hA : ∀ q, H0.size ≤ q → A q) (isC isR : List Nat) {wr : va_W} (hC : isC.map (fun i => ws[i]?) = w0.map some) (hR : isR.map (fun i => ws[i]?) = wr.map some) (hnC : va_nd isC = true) (hnR : va_nd isR = true) (hdis : ∀ i ∈ isR, i ∉ isC) (hn : As.length = n) (hsz : ls.size = nL) (hst : st = As.reverse ++ .ref b :: rest) (hro : (rest.map fun v => v.category).sum ≤ 8) (hdg : decode cc pc = .ok (.invokespecial index, 3)) (k2 n2 : Nat) (hcells : cells + mc ≤ R.cells ∧ cells + mc ≤ k2) (hslots : slots + ms ≤ R.slots ∧ slots + ms ≤ n2)
    (kk : ∀ (u : α) (H1 : Heap) (locs1 : List Loc), va_P D vwCl (wr ++ w1 u) H1 → va_D A (wr ++ w1 u) → va_S A H0 H1 locs1 → W p l e R s m args below meth c H1 locs1 k2 n2 Q (F0 m (pc + 3) ls rest)) : W p l e R s m args below meth c H locs cells slots Q (F0 m pc ls st) := by
  have hPc : va_P D vwCl w0 H := hP.sub isC (fm_of hC)
  have hDc := hD.sub (ws' := w0) isC hnC hC
  have hFc := va_free (wc := w0) hD hS hA isC hC
  refine va_callv (post := fun _ : α => True) (B := CB D cs (va_A w0 H.size) w1) (A1 := va_A w0 H.size) (va_runI (As := As) (rest := rest) F hM cw ⟨CI_blind _, fun U hU hW => ⟨rfl, by rw [hU], by rw [hU]; exact hPc, va_K.moved hW.alike hK, hDc.weaken (fun _ _ _ _ => trivial), NW_warm hW hN0⟩⟩ rfl hn hsz hst (lv_room hro) hdg ⟨hcells.1, hslots.1⟩) hS (fun q _ h => hFc q h) hFc (fun u t H1 locs1 ht hvm _ hB hz1 hk1 hS1 => ?_)
  obtain ⟨hP1, hK1, hD1⟩ := hB
  rw [ht] at hP1
  obtain ⟨hP2, hD2⟩ := va_join (wr := wr) (w1 := w1 u) hP hD isC isR hC hR hnR hdis hk1 hFc hP1 hD1
  exact W.widen hcells.2 hslots.2 (kk u H1 locs1 hP2 hD2 hS1)
theorem nw_callN {host : String} (F : CallFix p m c cc nL s args Ts own) (As : List Value) {w0 : va_W} {w1 : α → va_W} (hM : Met l y wy rm (va_Pc (.ref b :: As) (CI D cs w0 H.size)) (CO D cs w0 H.size w1) mc ms (va_A w0 H.size)) (cw : va_CN R s args own index y host bytes maxL none wy rm mc ms n ∧ y.name = "<init>" ∧ (Cond.instanceMethod y).before args s = true) (hN0 : NW s) (hK : va_K D vwCl (tyd cs) s) (hP : va_P D vwCl ws H) (hD : va_D A ws) (hS : va_S A H0 H locs) (hA : ∀ q, H0.size ≤ q → A q) (isC isR : List Nat) {wr : va_W} (hC : isC.map (fun i => ws[i]?) = w0.map some) (hR : isR.map (fun i => ws[i]?) = wr.map some) (hnC : va_nd isC = true) (hnR : va_nd isR = true) (hdis : ∀ i ∈ isR, i ∉ isC) (hn : As.length = n) (hsz : ls.size = nL) (hst : st = As.reverse ++ .ref b :: rest) (hro : (rest.map fun v => v.category).sum ≤ 8) (hdg : decode cc pc = .ok (.invokespecial index, 3)) (k2 n2 : Nat) (hcells : cells + mc ≤ R.cells ∧ cells + mc ≤ k2) (hslots : slots + ms ≤ R.slots ∧ slots + ms ≤ n2)
    (kk : ∀ (u : α) (H1 : Heap) (locs1 : List Loc), va_P D vwCl (wr ++ w1 u) H1 → va_D A (wr ++ w1 u) → va_S A H0 H1 locs1 → W p l e R s m args below meth c H1 locs1 k2 n2 Q (F0 m (pc + 3) ls rest)) : W p l e R s m args below meth c H locs cells slots Q (F0 m pc ls st) := by
  have hPc : va_P D vwCl w0 H := hP.sub isC (fm_of hC)
  have hDc := hD.sub (ws' := w0) isC hnC hC
  have hFc := va_free (wc := w0) hD hS hA isC hC
  refine va_callv (post := fun _ : α => True) (B := CB D cs (va_A w0 H.size) w1) (A1 := va_A w0 H.size) (va_runIN (As := As) (rest := rest) F hM cw ⟨CI_blind _, fun U hU hW => ⟨rfl, by rw [hU], by rw [hU]; exact hPc, va_K.moved hW.alike hK, hDc.weaken (fun _ _ _ _ => trivial), NW_warm hW hN0⟩⟩ rfl hn hsz hst (lv_room hro) hdg ⟨hcells.1, hslots.1⟩) hS (fun q _ h => hFc q h) hFc (fun u t H1 locs1 ht hvm _ hB hz1 hk1 hS1 => ?_)
  obtain ⟨hP1, hK1, hD1⟩ := hB
  rw [ht] at hP1
  obtain ⟨hP2, hD2⟩ := va_join (wr := wr) (w1 := w1 u) hP hD isC isR hC hR hnR hdis hk1 hFc hP1 hD1
  exact W.widen hcells.2 hslots.2 (kk u H1 locs1 hP2 hD2 hS1)
/-- a constructor's end -/
theorem nw_ret {w0 : va_W} {w1 : α → va_W} {cs : CS} {mc ms : Nat} (F : CallFix p m c cc nL s args Ts own) (hr : meth.sig.returnType = none) (hlk : meth.locks = false) (hK : va_K D vwCl (tyd cs) s) (u : α) (hP : va_P D vwCl (w1 u) H) (hD : va_D (va_A w0 s.heap.size) (w1 u)) (hS : va_S (va_A w0 s.heap.size) s.heap H locs) (hdg : decode cc pc = .ok (.return_, 1)) (hc : cells ≤ mc) (hs : slots ≤ ms) : W p l e R s m args below meth c H locs cells slots (MQ below (CO D cs w0 s.heap.size w1) args s mc ms (va_A w0 s.heap.size)) (F0 m pc ls []) :=
  W.widen hc hs (W.vret F.1 F.2.1 hr (fun t ht hW => ⟨⟨u, rfl, trivial, by rw [ht]; exact hP, va_K.moved hW.alike hK, hD⟩, hS.F ht⟩) hS.2.2 hdg hlk)
/-- an array's contents may be told otherwise behind its end -/
theorem nw_cong {a : Nat} {cA : ClassId} {n k : Nat} {f g : Nat → Option Nat} (hP : va_P D vwCl ws H) (he : ws[k]? = some (a, .inl (cA, n, .inr (.inr (.inr (.inr f)))))) (hfg : ∀ j, j < n → f j = g j) : va_P D vwCl (ws.set k (a, .inl (cA, n, .inr (.inr (.inr (.inr g)))))) H := by
  intro j q hj
  by_cases hjk : k = j
  · subst hjk
    have hl : k < ws.length := (List.getElem?_eq_some_iff.mp he).1
    rw [List.getElem?_set_self hl] at hj
    cases hj
    have h1 := hP k _ he
    show H[a]? = some (vp_cell _ _)
    have h1 : H[a]? = some (vp_cell cA (n, .inr (.inr (.inr (.inr f))))) := h1
    rw [h1, vp_cell_q, vp_cell_q]
    congr 1
    unfold arrV
    congr 2
    funext j
    show va_rf (f j.val) = va_rf (g j.val)
    rw [hfg j.val j.isLt]
  · rw [List.getElem?_set_ne hjk] at hj
    exact hP j q hj
theorem nw_congD {a : Nat} {e0 e1 : va_E} {k : Nat} (hD : va_D A ws) (he : ws[k]? = some (a, e0)) : va_D A (ws.set k (a, e1)) := hD.set he
end NWS
/-! the last cell of a list, and the others -/
theorem va_nd_of : ∀ {l : List Nat}, l.Nodup → va_nd l = true
  | [], _ => rfl
  | a :: l, h => by
    rw [List.nodup_cons] at h
    simp only [va_nd, Bool.and_eq_true, decide_eq_true_eq]
    exact ⟨h.1, va_nd_of h.2⟩
theorem va_nd_range (n : Nat) : va_nd (List.range n) = true := va_nd_of List.nodup_range
theorem last_dis (n : Nat) : ∀ i ∈ List.range n, i ∉ [n] := fun i hi h => by
  rw [List.mem_range] at hi
  rw [List.mem_singleton] at h
  omega
theorem lastC {α : Type} {x y : α} {w : List α} : [w.length + 1].map (fun i => ((x :: w) ++ [y])[i]?) = [y].map some := by
  simp
theorem lastR {α : Type} {x y : α} {w : List α} : (List.range (w.length + 1)).map (fun i => ((x :: w) ++ [y])[i]?) = (x :: w).map some := by
  apply List.ext_getElem?
  intro j
  rw [List.getElem?_map, List.getElem?_map]
  by_cases hj : j < w.length + 1
  · rw [List.getElem?_range hj]
    have h2 : ((x :: w) ++ [y])[j]? = (x :: w)[j]? := List.getElem?_append_left (by simpa using hj)
    obtain ⟨z, hz⟩ : ∃ z, (x :: w)[j]? = some z := ⟨_, List.getElem?_eq_getElem (by simpa using hj)⟩
    rw [Option.map_some, h2, hz, Option.map_some]
  · rw [List.getElem?_eq_none (by simp; omega), List.getElem?_eq_none (by simp; omega)]
    rfl
/-! the state that the constructors leave -/
def S0 : St := fun k _ j => if k = 5 ∧ j = 3 then -1 else 0
def T0 : St := fun _ _ _ => 0
def adz (h0 : Nat) (u : Nat → Nat → Nat) : Nat → Nat → Nat := fun k i => match k with
  | 0 => h0
  | k + 1 => u k i
