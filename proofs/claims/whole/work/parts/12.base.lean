abbrev GT : Type := va_G × (ClassId × ClassId × ClassId) × (Nat → Nat → Nat)
abbrev SH : Type := GT → Nat → Nat → (Nat → Int32) → va_E
def wl (sh : SH) (ids : List (Nat × Nat)) (G : GT) (S : St) : va_W := ids.map (fun q => (G.2.2 q.1 q.2, sh G q.1 q.2 (S q.1 q.2)))
abbrev tyl (G : GT) : List (ClassId × FieldType) := [(G.2.1.1, .int), (G.2.1.2.1, .boolean), (G.2.1.2.2, .object "CellCover$Cell")]
def Wd (sh : SH) (ids : List (Nat × Nat)) (G : GT) (A : Nat → Prop) (S : St) (H : Heap) : Prop := va_P G.1 vwCl (wl sh ids G S) H ∧ va_D A (wl sh ids G S)
def WD (sh : SH) (ids : List (Nat × Nat)) (G : GT) (A : Nat → Prop) (S : St) (U : State) : Prop := Wd sh ids G A S U.heap ∧ va_K G.1 vwCl (tyl G) U
theorem wl_at {sh : SH} {ids : List (Nat × Nat)} {G : GT} {S : St} {p k i : Nat} (h : ids[p]? = some (k, i)) : (wl sh ids G S)[p]? = some (G.2.2 k i, sh G k i (S k i)) := by
  simp [wl, h]
theorem wl_set {sh : SH} {ids : List (Nat × Nat)} {G : GT} {S : St} {p k i : Nat} {y : Nat → Int32} {e : va_E} (hn : ids.Nodup) (h : ids[p]? = some (k, i)) (he : sh G k i y = e) : (wl sh ids G S).set p (G.2.2 k i, e) = wl sh ids G (stp S k i y) := by
  subst he
  apply List.ext_getElem?
  intro j
  have hp : p < ids.length := (List.getElem?_eq_some_iff.mp h).1
  by_cases hj : p = j
  · subst hj
    rw [List.getElem?_set_self (by simp [wl]; exact hp), wl_at h]
    simp [stp]
  · rw [List.getElem?_set_ne hj]
    cases hq : ids[j]? with
    | none => simp [wl, hq]
    | some q =>
      obtain ⟨k2, i2⟩ := q
      rw [wl_at hq, wl_at hq]
      have hne : ¬ (k2 = k ∧ i2 = i) := by
        rintro ⟨rfl, rfl⟩
        exact hj ((List.getElem?_inj hp hn).mp (h.trans hq.symm))
      simp [stp, hne]
theorem wl_D {sh : SH} {ids : List (Nat × Nat)} {G : GT} {A : Nat → Prop} {S S' : St} (h : va_D A (wl sh ids G S)) : va_D A (wl sh ids G S') := by
  have key : ∀ (k : Nat) (q : Nat × va_E), (wl sh ids G S')[k]? = some q → ∃ e, (wl sh ids G S)[k]? = some (q.1, e) := by
    intro k q hk
    cases hq : ids[k]? with
    | none => simp [wl, hq] at hk
    | some r =>
      obtain ⟨k2, i2⟩ := r
      rw [wl_at hq] at hk
      cases hk
      exact ⟨_, wl_at hq⟩
  refine ⟨fun i j x y hi hj hxy => ?_, fun k q hk => ?_⟩
  · obtain ⟨a, ha⟩ := key i x hi
    obtain ⟨b, hb⟩ := key j y hj
    exact h.1 i j _ _ ha hb hxy
  · obtain ⟨a, ha⟩ := key k q hk
    exact h.2 k (q.1, a) ha
/-- what a method's end says -/
def QI (sh : SH) (ids : List (Nat × Nat)) (G : GT) (A : Nat → Prop) (out : Int32 × St) : Array Value → State → Outcome → State → Prop := va_Qi (fun r u => r = out.1 ∧ u = out.2) (WD sh ids G A) A
def QL (sh : SH) (ids : List (Nat × Nat)) (G : GT) (A : Nat → Prop) (out : Int64 × St) : Array Value → State → Outcome → State → Prop := va_Ql (fun r u => r = out.1 ∧ u = out.2) (WD sh ids G A) A
def QV (sh : SH) (ids : List (Nat × Nat)) (G : GT) (A : Nat → Prop) (out : St) : Array Value → State → Outcome → State → Prop := va_Qv (fun u => u = out) (WD sh ids G A) A
/-- the one reference that moves: Matcher.cell, by the number of the cell, or -1 -/
def rfn (G : GT) (v : Int32) : Value := if v < 0 then .null else .ref (G.2.2 8 v.toNatClampNeg)
theorem rfn_null {G : GT} {v : Int32} (h : v < 0) : rfn G v = .null := if_pos h
theorem rfn_ref {G : GT} {v : Int32} (h : ¬ v < 0) : rfn G v = .ref (G.2.2 8 v.toNatClampNeg) := if_neg h
theorem rfn_nI {G : GT} {i : Nat} (h : i < 2 ^ 31) : rfn G (nI i) = .ref (G.2.2 8 i) := by
  rw [rfn_ref (nI_pos h), nI_clamp h]
section RW
variable {p : Program} {l : Launch} {e : Env} {R : Room} {s : State} {m : MethodId} {args : Array Value} {below : List Frame} {meth : Method} {c : Code} {H H0 : Heap} {locs : List Loc} {Q : State → Prop} {sh : SH} {ids : List (Nat × Nat)} {G : GT} {A : Nat → Prop} {S : St} {cc : ByteArray} {nL : Nat} {Ts : List Cond} {own : String} {pc : Nat} {ls : Array Slot} {rest : List Value}
theorem rw_get (F : CallFix p m c cc nL s args Ts own) (hK : va_K G.1 vwCl (tyl G) s) (hW : Wd sh ids G A S H) {q0 k i : Nat} (hid : ids[q0]? = some (k, i)) {ci N index : Nat} {C : String} {T : u_T} {fs : List Value} (hsh : sh G k i (S k i) = .inr (ci, fs)) (hc : vwCl[ci]? = some (C, T, N)) (hin : ∀ w ∈ u_ws C T N, w ∈ Ts) (f : Nat) (hk : f < N) (hlink : Cond.fieldLink own index (T f).1 (T f).2.1 (T f).2.2.1 ∈ Ts) {v : Value} (hv : fs[f]? = some v) (hdg : decode cc pc = .ok (.getfield index, 3))
    (kk : W p l e R s m args below meth c H locs 0 0 Q (F0 m (pc + 3) ls (v :: rest))) : W p l e R s m args below meth c H locs 0 0 Q (F0 m pc ls (.ref (G.2.2 k i) :: rest)) :=
  va_get F.1 F.2.1 F.2.2.2.2 hin F.2.2.2.1 hK hW.1 q0 ((wl_at hid).trans (by rw [hsh])) hc f hk (F.2.2.2.2 _ hlink) (fun _ h => h) hv hdg kk
theorem rw_put (hn : ids.Nodup) (F : CallFix p m c cc nL s args Ts own) (hK : va_K G.1 vwCl (tyl G) s) (hW : Wd sh ids G A S H) (hS : va_S A H0 H locs) {q0 k i : Nat} (hid : ids[q0]? = some (k, i)) {ci N index : Nat} {C : String} {T : u_T} {fs : List Value} (hsh : sh G k i (S k i) = .inr (ci, fs)) (hc : vwCl[ci]? = some (C, T, N)) (hin : ∀ w ∈ u_ws C T N, w ∈ Ts) (ty0 : Nat → FieldType) (hty : ∀ k, k < N → parseFieldDescriptor (T k).2.2.1 = some (ty0 k)) (hnm : ∀ a, a < N → ∀ b, b < N → a ≠ b → (T a).2.1 ≠ (T b).2.1) (f : Nat) (hk : f < N) (hlink : Cond.fieldLink own index (T f).1 (T f).2.1 (T f).2.2.1 ∈ Ts) (hfin : (T f).2.2.2 = false) {ty : FieldType} {v : Value} {x : Int32} (hd : parseFieldDescriptor (T f).2.2.1 = some ty) (hna : narrow ty v = v) (hfit : fits ty v = true) (hl : f < fs.length) (hsh2 : sh G k i (upd (S k i) f x) = .inr (ci, fs.set f v)) (hdg : decode cc pc = .ok (.putfield index, 3))
    (kk : ∀ (H1 : Heap) (locs1 : List Loc) (S1 : St), S1 = put S k i f x → Wd sh ids G A S1 H1 → va_S A H0 H1 locs1 → W p l e R s m args below meth c H1 locs1 0 0 Q (F0 m (pc + 3) ls rest)) : W p l e R s m args below meth c H locs 0 0 Q (F0 m pc ls (v :: .ref (G.2.2 k i) :: rest)) := by
  refine va_put F.1 F.2.1 F.2.2.2.2 hin ty0 hty hnm F.2.2.2.1 hK hW.1 hW.2 hS q0 ((wl_at hid).trans (by rw [hsh])) hc f hk (F.2.2.2.2 _ hlink) (fun _ h => h) hfin hd hna hfit hl hdg (fun H1 locs1 hP hD hS1 => ?_)
  rw [wl_set hn hid hsh2] at hP hD
  exact kk H1 locs1 _ rfl ⟨hP, hD⟩ hS1
theorem rw_iald (F : CallFix p m c cc nL s args Ts own) (hK : va_K G.1 vwCl (tyl G) s) (hW : Wd sh ids G A S H) {q0 k i n : Nat} (hid : ids[q0]? = some (k, i)) (hsh : ∀ y, sh G k i y = .inl (G.2.1.1, n, .inl y)) {j : Int32} (hin : vp_in j n) (hdg : decode cc pc = .ok (.iaload, 1))
    (kk : W p l e R s m args below meth c H locs 0 0 Q (F0 m (pc + 1) ls (.int (S k i j.toNatClampNeg) :: rest))) : W p l e R s m args below meth c H locs 0 0 Q (F0 m pc ls (.int j :: .ref (G.2.2 k i) :: rest)) :=
  va_iald F.1 F.2.1 hK hW.1 q0 0 ((wl_at hid).trans (by rw [hsh])) rfl hin hdg kk
theorem rw_zald (F : CallFix p m c cc nL s args Ts own) (hK : va_K G.1 vwCl (tyl G) s) (hW : Wd sh ids G A S H) {q0 k i n : Nat} (hid : ids[q0]? = some (k, i)) (hsh : ∀ y, sh G k i y = .inl (G.2.1.2.1, n, .inl y)) {j : Int32} (hin : vp_in j n) (hdg : decode cc pc = .ok (.baload, 1))
    (kk : W p l e R s m args below meth c H locs 0 0 Q (F0 m (pc + 1) ls (.int (S k i j.toNatClampNeg) :: rest))) : W p l e R s m args below meth c H locs 0 0 Q (F0 m pc ls (.int j :: .ref (G.2.2 k i) :: rest)) :=
  va_zald F.1 F.2.1 hK hW.1 q0 1 ((wl_at hid).trans (by rw [hsh])) rfl hin hdg kk
theorem rw_aald (F : CallFix p m c cc nL s args Ts own) (hK : va_K G.1 vwCl (tyl G) s) (hW : Wd sh ids G A S H) {q0 k i n : Nat} {f : Nat → Nat} (hid : ids[q0]? = some (k, i)) (hsh : ∀ y, sh G k i y = .inl (G.2.1.2.2, n, .inr (.inr (.inr (.inr (fun j => some (f j))))))) {j : Int32} (hin : vp_in j n) (hdg : decode cc pc = .ok (.aaload, 1))
    (kk : W p l e R s m args below meth c H locs 0 0 Q (F0 m (pc + 1) ls (.ref (f j.toNatClampNeg) :: rest))) : W p l e R s m args below meth c H locs 0 0 Q (F0 m pc ls (.int j :: .ref (G.2.2 k i) :: rest)) :=
  va_aldq (f := fun j => some (f j)) F.1 F.2.1 hK hW.1 q0 2 ((wl_at hid).trans (by rw [hsh])) rfl hin hdg kk
theorem rw_iast (hn : ids.Nodup) (F : CallFix p m c cc nL s args Ts own) (hK : va_K G.1 vwCl (tyl G) s) (hW : Wd sh ids G A S H) (hS : va_S A H0 H locs) {q0 k i n : Nat} (hid : ids[q0]? = some (k, i)) (hsh : ∀ y, sh G k i y = .inl (G.2.1.1, n, .inl y)) {j x : Int32} (hin : vp_in j n) (hdg : decode cc pc = .ok (.iastore, 1))
    (kk : ∀ (H1 : Heap) (locs1 : List Loc) (S1 : St), S1 = put S k i j.toNatClampNeg x → Wd sh ids G A S1 H1 → va_S A H0 H1 locs1 → W p l e R s m args below meth c H1 locs1 0 0 Q (F0 m (pc + 1) ls rest)) : W p l e R s m args below meth c H locs 0 0 Q (F0 m pc ls (.int x :: .int j :: .ref (G.2.2 k i) :: rest)) := by
  refine va_iast F.1 F.2.1 hK hW.1 hW.2 hS q0 0 ((wl_at hid).trans (by rw [hsh])) rfl hin hdg (fun H1 locs1 hP hD hS1 => ?_)
  rw [wl_set hn hid (hsh _)] at hP hD
  exact kk H1 locs1 _ rfl ⟨hP, hD⟩ hS1
theorem rw_zast (hn : ids.Nodup) (F : CallFix p m c cc nL s args Ts own) (hK : va_K G.1 vwCl (tyl G) s) (hW : Wd sh ids G A S H) (hS : va_S A H0 H locs) {q0 k i n : Nat} (hid : ids[q0]? = some (k, i)) (hsh : ∀ y, sh G k i y = .inl (G.2.1.2.1, n, .inl y)) {j x : Int32} (hin : vp_in j n) (hdg : decode cc pc = .ok (.bastore, 1))
    (kk : ∀ (H1 : Heap) (locs1 : List Loc) (S1 : St), S1 = put S k i j.toNatClampNeg (nz x) → Wd sh ids G A S1 H1 → va_S A H0 H1 locs1 → W p l e R s m args below meth c H1 locs1 0 0 Q (F0 m (pc + 1) ls rest)) : W p l e R s m args below meth c H locs 0 0 Q (F0 m pc ls (.int x :: .int j :: .ref (G.2.2 k i) :: rest)) := by
  refine va_zast F.1 F.2.1 hK hW.1 hW.2 hS q0 1 ((wl_at hid).trans (by rw [hsh])) rfl hin hdg (fun H1 locs1 hP hD hS1 => ?_)
  rw [wl_set hn hid (hsh _)] at hP hD
  exact kk H1 locs1 _ rfl ⟨hP, hD⟩ hS1
theorem WD_blind (av : List Value) : FrameBlind (va_Pc av (WD sh ids G A S)) := fun _ U _ _ q => ⟨q.1, q.2.1, va_K.moved (u := U) (Vm.Alike.refl U.vm) q.2.2⟩
theorem WD_pre (hK : va_K G.1 vwCl (tyl G) s) (hW : Wd sh ids G A S H) (av : List Value) : ∀ U : State, U.heap = H → s.WarmedH U.vm → va_Pc av (WD sh ids G A S) av.toArray U := fun U hU hw => ⟨rfl, by rw [hU]; exact hW, va_K.moved hw.alike hK⟩
theorem rw_recv (hK : va_K G.1 vwCl (tyl G) s) (hW : Wd sh ids G A S H) {q0 k i : Nat} (hid : ids[q0]? = some (k, i)) {ci N : Nat} {C : String} {T : u_T} {fs : List Value} (hsh : sh G k i (S k i) = .inr (ci, fs)) (hc : vwCl[ci]? = some (C, T, N)) : ∃ cell : Cell, H[G.2.2 k i]? = some cell ∧ cell.vm.isStatics = false ∧ s.vm.findClass C = some cell.cls :=
  va_recv (q := (C, T, N)) hK hW.1 hc ((wl_at hid).trans (by rw [hsh]))
variable {y : MethodName} {bytes : ByteArray} {maxL n index : Nat} {ret : Option FieldType} {ws : List Cond} {rm : Room} {C : String} {b : Addr} {st : List Value}
theorem rw_vi (F : CallFix p m c cc nL s args Ts own) (hK : va_K G.1 vwCl (tyl G) s) (hW : Wd sh ids G A S H) (hS : va_S A H0 H locs) (As : List Value) {r0 : Int32} {S1 : St} (hM : Met l y ws rm (va_Pc (.ref b :: As) (WD sh ids G A S)) (QI sh ids G A (r0, S1)) 0 0 A) (cw : CallW R s args own C index y bytes maxL ret ws rm 0 0 n) (hb : ∃ cell : Cell, H[b]? = some cell ∧ cell.vm.isStatics = false ∧ s.vm.findClass C = some cell.cls) (hn : As.length = n) (hsz : ls.size = nL) (hst : st = As.reverse ++ .ref b :: rest) (hro : (rest.map fun v => v.category).sum ≤ 8) (hdg : decode cc pc = .ok (.invokevirtual index, 3))
    (kk : ∀ (H1 : Heap) (locs1 : List Loc), Wd sh ids G A S1 H1 → va_S A H0 H1 locs1 → W p l e R s m args below meth c H1 locs1 0 0 Q (F0 m (pc + 3) ls (.int r0 :: rest))) : W p l e R s m args below meth c H locs 0 0 Q (F0 m pc ls st) := by
  refine va_calli (post := fun r u => r = r0 ∧ u = S1) (B := WD sh ids G A) (A1 := A) (va_runV (As := As) (rest := rest) F hM cw ⟨WD_blind _, hb, WD_pre hK hW _⟩ rfl hn hsz hst (lv_room hro) hdg ⟨Nat.zero_le _, Nat.zero_le _⟩) hS (fun _ _ h => h) (fun _ h => h) (fun r u t H1 locs1 ht _ hw hB _ _ hS1 => ?_)
  obtain ⟨er, eu⟩ := hw
  subst er
  subst eu
  exact kk H1 locs1 (by rw [← ht]; exact hB.1) hS1
theorem rw_vl (F : CallFix p m c cc nL s args Ts own) (hK : va_K G.1 vwCl (tyl G) s) (hW : Wd sh ids G A S H) (hS : va_S A H0 H locs) (As : List Value) {r0 : Int64} {S1 : St} (hM : Met l y ws rm (va_Pc (.ref b :: As) (WD sh ids G A S)) (QL sh ids G A (r0, S1)) 0 0 A) (cw : CallW R s args own C index y bytes maxL ret ws rm 0 0 n) (hb : ∃ cell : Cell, H[b]? = some cell ∧ cell.vm.isStatics = false ∧ s.vm.findClass C = some cell.cls) (hn : As.length = n) (hsz : ls.size = nL) (hst : st = As.reverse ++ .ref b :: rest) (hro : (rest.map fun v => v.category).sum ≤ 8) (hdg : decode cc pc = .ok (.invokevirtual index, 3))
    (kk : ∀ (H1 : Heap) (locs1 : List Loc), Wd sh ids G A S1 H1 → va_S A H0 H1 locs1 → W p l e R s m args below meth c H1 locs1 0 0 Q (F0 m (pc + 3) ls (.long r0 :: rest))) : W p l e R s m args below meth c H locs 0 0 Q (F0 m pc ls st) := by
  refine va_calll (post := fun r u => r = r0 ∧ u = S1) (B := WD sh ids G A) (A1 := A) (va_runV (As := As) (rest := rest) F hM cw ⟨WD_blind _, hb, WD_pre hK hW _⟩ rfl hn hsz hst (lv_room hro) hdg ⟨Nat.zero_le _, Nat.zero_le _⟩) hS (fun _ _ h => h) (fun _ h => h) (fun r u t H1 locs1 ht _ hw hB _ _ hS1 => ?_)
  obtain ⟨er, eu⟩ := hw
  subst er
  subst eu
  exact kk H1 locs1 (by rw [← ht]; exact hB.1) hS1
theorem rw_vv (F : CallFix p m c cc nL s args Ts own) (hK : va_K G.1 vwCl (tyl G) s) (hW : Wd sh ids G A S H) (hS : va_S A H0 H locs) (As : List Value) {out : St} (hM : Met l y ws rm (va_Pc (.ref b :: As) (WD sh ids G A S)) (QV sh ids G A out) 0 0 A) (cw : CallW R s args own C index y bytes maxL ret ws rm 0 0 n) (hb : ∃ cell : Cell, H[b]? = some cell ∧ cell.vm.isStatics = false ∧ s.vm.findClass C = some cell.cls) (hn : As.length = n) (hsz : ls.size = nL) (hst : st = As.reverse ++ .ref b :: rest) (hro : (rest.map fun v => v.category).sum ≤ 8) (hdg : decode cc pc = .ok (.invokevirtual index, 3))
    (kk : ∀ (H1 : Heap) (locs1 : List Loc), Wd sh ids G A out H1 → va_S A H0 H1 locs1 → W p l e R s m args below meth c H1 locs1 0 0 Q (F0 m (pc + 3) ls rest)) : W p l e R s m args below meth c H locs 0 0 Q (F0 m pc ls st) := by
  refine va_callv (post := fun u => u = out) (B := WD sh ids G A) (A1 := A) (va_runV (As := As) (rest := rest) F hM cw ⟨WD_blind _, hb, WD_pre hK hW _⟩ rfl hn hsz hst (lv_room hro) hdg ⟨Nat.zero_le _, Nat.zero_le _⟩) hS (fun _ _ h => h) (fun _ h => h) (fun u t H1 locs1 ht _ hw hB _ _ hS1 => ?_)
  obtain rfl := hw
  exact kk H1 locs1 (by rw [← ht]; exact hB.1) hS1
theorem rw_si (F : CallFix p m c cc nL s args Ts own) (hK : va_K G.1 vwCl (tyl G) s) (hW : Wd sh ids G A S H) (hS : va_S A H0 H locs) (As : List Value) {r0 : Int32} {S1 : St} (hM : Met l y ws rm (va_Pc As (WD sh ids G A S)) (QI sh ids G A (r0, S1)) 0 0 A) (cw : CallB R s args own index y bytes maxL ret ws rm 0 0 n ∧ (Cond.static y).before args s = true) (hn : As.length = n) (hsz : ls.size = nL) (hst : st = As.reverse ++ rest) (hro : (rest.map fun v => v.category).sum ≤ 8) (hdg : decode cc pc = .ok (.invokestatic index, 3))
    (kk : ∀ (H1 : Heap) (locs1 : List Loc), Wd sh ids G A S1 H1 → va_S A H0 H1 locs1 → W p l e R s m args below meth c H1 locs1 0 0 Q (F0 m (pc + 3) ls (.int r0 :: rest))) : W p l e R s m args below meth c H locs 0 0 Q (F0 m pc ls st) := by
  refine va_calli (post := fun r u => r = r0 ∧ u = S1) (B := WD sh ids G A) (A1 := A) (va_runS (As := As) (rest := rest) F hM cw ⟨WD_blind _, WD_pre hK hW _⟩ rfl hn hsz hst (lv_room hro) hdg ⟨Nat.zero_le _, Nat.zero_le _⟩) hS (fun _ _ h => h) (fun _ h => h) (fun r u t H1 locs1 ht _ hw hB _ _ hS1 => ?_)
  obtain ⟨er, eu⟩ := hw
  subst er
  subst eu
  exact kk H1 locs1 (by rw [← ht]; exact hB.1) hS1
theorem rw_ret (F : CallFix p m c cc nL s args Ts own) (hr : meth.sig.returnType = some .int) (hlk : meth.locks = false) (hK : va_K G.1 vwCl (tyl G) s) (hW : Wd sh ids G A S H) (hS : va_S A s.heap H locs) {v : Int32} {out : Int32 × St} (h : some (v, S) = some out) (hdg : decode cc pc = .ok (.ireturn, 1)) : W p l e R s m args below meth c H locs 0 0 (MQ below (QI sh ids G A out) args s 0 0 A) (F0 m pc ls [.int v]) := by
  cases h
  exact W.iret F.1 F.2.1 hr (fun t ht hw => ⟨⟨v, S, rfl, ⟨rfl, rfl⟩, by rw [ht]; exact hW, va_K.moved hw.alike hK⟩, hS.F ht⟩) hS.2.2 hdg hlk
theorem rw_retz (F : CallFix p m c cc nL s args Ts own) (hr : meth.sig.returnType = some .boolean) (hlk : meth.locks = false) (hK : va_K G.1 vwCl (tyl G) s) (hW : Wd sh ids G A S H) (hS : va_S A s.heap H locs) {v : Int32} (hz : bz v = true) {out : Int32 × St} (h : some (v, S) = some out) (hdg : decode cc pc = .ok (.ireturn, 1)) : W p l e R s m args below meth c H locs 0 0 (MQ below (QI sh ids G A out) args s 0 0 A) (F0 m pc ls [.int v]) := by
  cases h
  exact W.zret F.1 F.2.1 hr (bz_n hz) (fun t ht hw => ⟨⟨v, S, rfl, ⟨rfl, rfl⟩, by rw [ht]; exact hW, va_K.moved hw.alike hK⟩, hS.F ht⟩) hS.2.2 hdg hlk
theorem rw_retl (F : CallFix p m c cc nL s args Ts own) (hr : meth.sig.returnType = some .long) (hlk : meth.locks = false) (hK : va_K G.1 vwCl (tyl G) s) (hW : Wd sh ids G A S H) (hS : va_S A s.heap H locs) {v : Int64} {out : Int64 × St} (h : some (v, S) = some out) (hdg : decode cc pc = .ok (.lreturn, 1)) : W p l e R s m args below meth c H locs 0 0 (MQ below (QL sh ids G A out) args s 0 0 A) (F0 m pc ls [.long v]) := by
  cases h
  exact W.lret F.1 F.2.1 hr (fun t ht hw => ⟨⟨v, S, rfl, ⟨rfl, rfl⟩, by rw [ht]; exact hW, va_K.moved hw.alike hK⟩, hS.F ht⟩) hS.2.2 hdg hlk
theorem rw_retv (F : CallFix p m c cc nL s args Ts own) (hr : meth.sig.returnType = none) (hlk : meth.locks = false) (hK : va_K G.1 vwCl (tyl G) s) (hW : Wd sh ids G A S H) (hS : va_S A s.heap H locs) {out : St} (h : some S = some out) (hdg : decode cc pc = .ok (.return_, 1)) : W p l e R s m args below meth c H locs 0 0 (MQ below (QV sh ids G A out) args s 0 0 A) (F0 m pc ls []) := by
  cases h
  exact W.vret F.1 F.2.1 hr (fun t ht hw => ⟨⟨S, rfl, rfl, by rw [ht]; exact hW, va_K.moved hw.alike hK⟩, hS.F ht⟩) hS.2.2 hdg hlk
end RW
