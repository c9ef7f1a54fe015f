/-! The law: two worlds side by side -/
def AZ (s : State) : Nat → Prop := fun q => s.heap.size ≤ q
def LCx (p : Program) (m : MethodId) (c : Code) (s : State) (b L : Nat) (xs : Nat → Int32) (D : va_G) (cs : CS) (AC AM : Nat → Prop) : Prop :=
  CallFix p m c cL_law 4 s #[Value.ref b] wsL_law RL ∧ va_K D vwCl (tyd cs) s ∧ va_X b L xs s s.heap ∧ b < s.heap.size ∧ (∀ q, AC q → ¬ AM q) ∧ (∀ q, AC q → AZ s q) ∧ (∀ q, AM q → AZ s q) ∧ L ≤ 2560
def WW (D : va_G) (cs : CS) (aC aM : Nat → Nat → Nat) (AC AM : Nat → Prop) (S T : St) (H : Heap) : Prop := Wd shC idsC (D, cs, aC) AC S H ∧ Wd shM idsM (D, cs, aM) AM T H
abbrev lvL (b : Nat) (aC aM : Nat → Nat → Nat) (i : Nat) : List (Nat × Value) := [(0, .ref b), (1, .ref (aC 0 0)), (2, .ref (aM 0 0)), (3, .int (nI i))]
theorem Wd_kept {sh : SH} {ids : List (Nat × Nat)} {G : GT} {A B : Nat → Prop} {S : St} {H H1 : Heap} (h : Wd sh ids G A S H) (hd : ∀ q, B q → ¬ A q) (hk : ∀ q : Nat, q < H.size → ¬ B q → H1[q]? = H[q]?) : Wd sh ids G A S H1 :=
  ⟨h.1.kept (fun k x hx => hk x.1 ((h.1 k x hx).lt) (fun hb => hd _ hb (h.2.2 k x hx))), h.2⟩
def lwd (a b : Int32) : Int64 := (a.toInt64 <<< ((32 : Int32).toInt64 &&& 63)) ||| (b.toInt64 &&& 4294967295)
section LX
variable {p : Program} {l : Launch} {e : Env} {s : State} {m : MethodId} {b L : Nat} {xs : Nat → Int32} {below : List Frame} {meth : Method} {c : Code} {H : Heap} {locs : List Loc} {cells slots : Nat} {Q : State → Prop} {D : va_G} {cs : CS} {aC aM : Nat → Nat → Nat} {AC AM : Nat → Prop} {S T : St} {ls : Array Slot} {rest st : List Value} {pc i : Nat}
theorem lx_arg (X : LCx p m c s b L xs D cs AC AM) (hS : va_S (AZ s) s.heap H locs) (hl : lv_has ls 4 (lvL b aC aM i)) (hi : i + 5 ≤ L) (k : Nat) (hk : k < 5) {z : Int} (hz : Int32.ofInt z = nI k) (d0 : decode cL_law pc = .ok (.aload_n 0, 1)) (d1 : decode cL_law (pc + 1) = .ok (.iload_n 3, 1)) (d2 : decode cL_law (pc + 2) = .ok (.iconst z, 1)) (d3 : decode cL_law (pc + 3) = .ok (.iadd, 1)) (d4 : decode cL_law (pc + 4) = .ok (.iaload, 1))
    (kk : W p l e room_1 s m #[Value.ref b] below meth c H locs cells slots Q (F0 m (pc + 5) ls (.int (xs (i + k)) :: rest))) : W p l e room_1 s m #[Value.ref b] below meth c H locs cells slots Q (F0 m pc ls rest) := by
  obtain ⟨F, hK, hX, hbl, -, -, -, hL⟩ := X
  refine lv_aload_n F.1 F.2.1 d0 rfl (lv_at hl 0 rfl) ?_
  refine lv_iload_n F.1 F.2.1 d1 rfl (lv_at hl 3 rfl) ?_
  refine lv_iconst F.1 F.2.1 d2 hz ?_
  refine lv_iadd F.1 F.2.1 d3 ?_
  rw [nI_add]
  refine va_sld F.1 F.2.1 hX hbl (Nat.not_le.mpr hbl) hS (vp_in_nI (by omega) (by omega)) d4 ?_
  rw [nI_clamp (by omega)]
  exact kk
theorem lx_long (X : LCx p m c s b L xs D cs AC AM) (hS : va_S (AZ s) s.heap H locs) (hl : lv_has ls 4 (lvL b aC aM i)) (hi : i + 5 ≤ L) (d0 : decode cL_law pc = .ok (.aload_n 0, 1)) (d1 : decode cL_law (pc + 1) = .ok (.iload_n 3, 1)) (d2 : decode cL_law (pc + 2) = .ok (.iconst 1, 1)) (d3 : decode cL_law (pc + 3) = .ok (.iadd, 1)) (d4 : decode cL_law (pc + 4) = .ok (.iaload, 1)) (d5 : decode cL_law (pc + 5) = .ok (.i2l, 1)) (d6 : decode cL_law (pc + 6) = .ok (.bipush 32, 2)) (d7 : decode cL_law (pc + 8) = .ok (.lshl, 1)) (d8 : decode cL_law (pc + 9) = .ok (.aload_n 0, 1)) (d9 : decode cL_law (pc + 10) = .ok (.iload_n 3, 1)) (d10 : decode cL_law (pc + 11) = .ok (.iconst 2, 1)) (d11 : decode cL_law (pc + 12) = .ok (.iadd, 1)) (d12 : decode cL_law (pc + 13) = .ok (.iaload, 1)) (d13 : decode cL_law (pc + 14) = .ok (.i2l, 1)) (d14 : decode cL_law (pc + 15) = .ok (.ldc2_w 28, 3)) (d15 : decode cL_law (pc + 18) = .ok (.land, 1)) (d16 : decode cL_law (pc + 19) = .ok (.lor, 1)) (hw : Cond.constantLong RL 28 4294967295 ∈ wsL_law)
    (kk : W p l e room_1 s m #[Value.ref b] below meth c H locs cells slots Q (F0 m (pc + 20) ls (.long (lwd (xs (i + 1)) (xs (i + 2))) :: rest))) : W p l e room_1 s m #[Value.ref b] below meth c H locs cells slots Q (F0 m pc ls rest) := by
  refine lx_arg X hS hl hi 1 (by decide) (by decide) d0 d1 d2 d3 d4 ?_
  refine lv_i2l X.1.1 X.1.2.1 d5 rfl ?_
  refine lv_bipush (v := 32) X.1.1 X.1.2.1 d6 (by decide) ?_
  refine lv_lshl X.1.1 X.1.2.1 d7 rfl ?_
  refine lx_arg X hS hl hi 2 (by decide) (by decide) d8 d9 d10 d11 d12 ?_
  refine lv_i2l X.1.1 X.1.2.1 d13 rfl ?_
  refine lv_ldc2 (v := 4294967295) X.1.1 X.1.2.1 X.1.2.2.2.1 (X.1.2.2.2.2 _ hw) d14 ?_
  refine lv_land X.1.1 X.1.2.1 d15 ?_
  refine lv_lor X.1.1 X.1.2.1 d16 ?_
  exact kk
variable {y : MethodName} {bytes : ByteArray} {maxL n index : Nat} {rt : Option FieldType} {wy : List Cond} {rm : Room}
theorem lx_ci (X : LCx p m c s b L xs D cs AC AM) (hW : WW D cs aC aM AC AM S T H) (hS : va_S (AZ s) s.heap H locs) (As : List Value) {r0 : Int32} {S1 : St} (hM : Met l y wy rm (va_Pc (.ref (aC 0 0) :: As) (WD shC idsC (D, cs, aC) AC S)) (QI shC idsC (D, cs, aC) AC (r0, S1)) 0 0 AC) (cw : CallW room_1 s #[Value.ref b] RL RX8 index y bytes maxL rt wy rm 0 0 n) (hn : As.length = n) (hsz : ls.size = 4) (hst : st = As.reverse ++ .ref (aC 0 0) :: rest) (hro : (rest.map fun v => v.category).sum ≤ 8) (hdg : decode cL_law pc = .ok (.invokevirtual index, 3)) (hc : cells ≤ 600000 ∧ slots ≤ 7302250)
    (kk : ∀ (H1 : Heap) (locs1 : List Loc), WW D cs aC aM AC AM S1 T H1 → va_S (AZ s) s.heap H1 locs1 → W p l e room_1 s m #[Value.ref b] below meth c H1 locs1 cells slots Q (F0 m (pc + 3) ls (.int r0 :: rest))) : W p l e room_1 s m #[Value.ref b] below meth c H locs cells slots Q (F0 m pc ls st) := by
  refine va_calli (post := fun r u => r = r0 ∧ u = S1) (B := WD shC idsC (D, cs, aC) AC) (A1 := AC) (va_runV (As := As) (rest := rest) X.1 hM cw ⟨WD_blind _, rw_recv (G := (D, cs, aC)) (q0 := 0) X.2.1 hW.1 idC_0 rfl rfl, WD_pre (G := (D, cs, aC)) X.2.1 hW.1 _⟩ rfl hn hsz hst (lv_room hro) hdg hc) hS (fun q _ h => X.2.2.2.2.2.1 q h) (fun q h => X.2.2.2.2.2.1 q h) (fun r u t H1 locs1 ht _ hw hB _ hk hS1 => ?_)
  obtain ⟨er, eu⟩ := hw
  subst er
  subst eu
  exact kk H1 locs1 ⟨by rw [← ht]; exact hB.1, Wd_kept hW.2 X.2.2.2.2.1 hk⟩ hS1
theorem lx_cl (X : LCx p m c s b L xs D cs AC AM) (hW : WW D cs aC aM AC AM S T H) (hS : va_S (AZ s) s.heap H locs) (As : List Value) {r0 : Int64} {S1 : St} (hM : Met l y wy rm (va_Pc (.ref (aC 0 0) :: As) (WD shC idsC (D, cs, aC) AC S)) (QL shC idsC (D, cs, aC) AC (r0, S1)) 0 0 AC) (cw : CallW room_1 s #[Value.ref b] RL RX8 index y bytes maxL rt wy rm 0 0 n) (hn : As.length = n) (hsz : ls.size = 4) (hst : st = As.reverse ++ .ref (aC 0 0) :: rest) (hro : (rest.map fun v => v.category).sum ≤ 8) (hdg : decode cL_law pc = .ok (.invokevirtual index, 3)) (hc : cells ≤ 600000 ∧ slots ≤ 7302250)
    (kk : ∀ (H1 : Heap) (locs1 : List Loc), WW D cs aC aM AC AM S1 T H1 → va_S (AZ s) s.heap H1 locs1 → W p l e room_1 s m #[Value.ref b] below meth c H1 locs1 cells slots Q (F0 m (pc + 3) ls (.long r0 :: rest))) : W p l e room_1 s m #[Value.ref b] below meth c H locs cells slots Q (F0 m pc ls st) := by
  refine va_calll (post := fun r u => r = r0 ∧ u = S1) (B := WD shC idsC (D, cs, aC) AC) (A1 := AC) (va_runV (As := As) (rest := rest) X.1 hM cw ⟨WD_blind _, rw_recv (G := (D, cs, aC)) (q0 := 0) X.2.1 hW.1 idC_0 rfl rfl, WD_pre (G := (D, cs, aC)) X.2.1 hW.1 _⟩ rfl hn hsz hst (lv_room hro) hdg hc) hS (fun q _ h => X.2.2.2.2.2.1 q h) (fun q h => X.2.2.2.2.2.1 q h) (fun r u t H1 locs1 ht _ hw hB _ hk hS1 => ?_)
  obtain ⟨er, eu⟩ := hw
  subst er
  subst eu
  exact kk H1 locs1 ⟨by rw [← ht]; exact hB.1, Wd_kept hW.2 X.2.2.2.2.1 hk⟩ hS1
theorem lx_mi (X : LCx p m c s b L xs D cs AC AM) (hW : WW D cs aC aM AC AM S T H) (hS : va_S (AZ s) s.heap H locs) (As : List Value) {r0 : Int32} {T1 : St} (hM : Met l y wy rm (va_Pc (.ref (aM 0 0) :: As) (WD shM idsM (D, cs, aM) AM T)) (QI shM idsM (D, cs, aM) AM (r0, T1)) 0 0 AM) (cw : CallW room_1 s #[Value.ref b] RL RX9 index y bytes maxL rt wy rm 0 0 n) (hn : As.length = n) (hsz : ls.size = 4) (hst : st = As.reverse ++ .ref (aM 0 0) :: rest) (hro : (rest.map fun v => v.category).sum ≤ 8) (hdg : decode cL_law pc = .ok (.invokevirtual index, 3)) (hc : cells ≤ 600000 ∧ slots ≤ 7302250)
    (kk : ∀ (H1 : Heap) (locs1 : List Loc), WW D cs aC aM AC AM S T1 H1 → va_S (AZ s) s.heap H1 locs1 → W p l e room_1 s m #[Value.ref b] below meth c H1 locs1 cells slots Q (F0 m (pc + 3) ls (.int r0 :: rest))) : W p l e room_1 s m #[Value.ref b] below meth c H locs cells slots Q (F0 m pc ls st) := by
  refine va_calli (post := fun r u => r = r0 ∧ u = T1) (B := WD shM idsM (D, cs, aM) AM) (A1 := AM) (va_runV (As := As) (rest := rest) X.1 hM cw ⟨WD_blind _, rw_recv (G := (D, cs, aM)) (q0 := 0) X.2.1 hW.2 idM_0 rfl rfl, WD_pre (G := (D, cs, aM)) X.2.1 hW.2 _⟩ rfl hn hsz hst (lv_room hro) hdg hc) hS (fun q _ h => X.2.2.2.2.2.2.1 q h) (fun q h => X.2.2.2.2.2.2.1 q h) (fun r u t H1 locs1 ht _ hw hB _ hk hS1 => ?_)
  obtain ⟨er, eu⟩ := hw
  subst er
  subst eu
  exact kk H1 locs1 ⟨Wd_kept hW.1 (fun q h1 h2 => X.2.2.2.2.1 q h2 h1) hk, by rw [← ht]; exact hB.1⟩ hS1
theorem lx_ml (X : LCx p m c s b L xs D cs AC AM) (hW : WW D cs aC aM AC AM S T H) (hS : va_S (AZ s) s.heap H locs) (As : List Value) {r0 : Int64} {T1 : St} (hM : Met l y wy rm (va_Pc (.ref (aM 0 0) :: As) (WD shM idsM (D, cs, aM) AM T)) (QL shM idsM (D, cs, aM) AM (r0, T1)) 0 0 AM) (cw : CallW room_1 s #[Value.ref b] RL RX9 index y bytes maxL rt wy rm 0 0 n) (hn : As.length = n) (hsz : ls.size = 4) (hst : st = As.reverse ++ .ref (aM 0 0) :: rest) (hro : (rest.map fun v => v.category).sum ≤ 8) (hdg : decode cL_law pc = .ok (.invokevirtual index, 3)) (hc : cells ≤ 600000 ∧ slots ≤ 7302250)
    (kk : ∀ (H1 : Heap) (locs1 : List Loc), WW D cs aC aM AC AM S T1 H1 → va_S (AZ s) s.heap H1 locs1 → W p l e room_1 s m #[Value.ref b] below meth c H1 locs1 cells slots Q (F0 m (pc + 3) ls (.long r0 :: rest))) : W p l e room_1 s m #[Value.ref b] below meth c H locs cells slots Q (F0 m pc ls st) := by
  refine va_calll (post := fun r u => r = r0 ∧ u = T1) (B := WD shM idsM (D, cs, aM) AM) (A1 := AM) (va_runV (As := As) (rest := rest) X.1 hM cw ⟨WD_blind _, rw_recv (G := (D, cs, aM)) (q0 := 0) X.2.1 hW.2 idM_0 rfl rfl, WD_pre (G := (D, cs, aM)) X.2.1 hW.2 _⟩ rfl hn hsz hst (lv_room hro) hdg hc) hS (fun q _ h => X.2.2.2.2.2.2.1 q h) (fun q h => X.2.2.2.2.2.2.1 q h) (fun r u t H1 locs1 ht _ hw hB _ hk hS1 => ?_)
  obtain ⟨er, eu⟩ := hw
  subst er
  subst eu
  exact kk H1 locs1 ⟨Wd_kept hW.1 (fun q h1 h2 => X.2.2.2.2.1 q h2 h1) hk, by rw [← ht]; exact hB.1⟩ hS1
end LX
