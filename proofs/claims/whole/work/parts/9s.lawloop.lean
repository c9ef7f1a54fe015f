/-! The law's loop -/
theorem len5 {L : Nat} (hL : L ≤ 2560) : (Int32.ofNat L - 5).toInt = (L : Int) - 5 := by
  have h : (nI L).toInt = (L : Int) := nI_toInt (by omega)
  show (nI L - 5).toInt = _
  rw [Int32.toInt_sub, h, show (5 : Int32).toInt = 5 from by decide]
  exact Int.bmod_eq_of_le (by omega) (by omega)
set_option maxHeartbeats 4000000 in
set_option maxRecDepth 100000 in
theorem law_loop {p : Program} {l : Launch} {e : Env} {s : State} {m : MethodId} {b L : Nat} {xs : Nat → Int32} {below : List Frame} {meth : Method} {c : Code} {cells slots : Nat} {D : va_G} {cs : CS} {aC aM : Nat → Nat → Nat} {AC AM : Nat → Prop} (X : LCx p m c s b L xs D cs AC AM) (hr : meth.sig.returnType = ret) (hlk : meth.locks = false) (hc : cells ≤ 600000 ∧ slots ≤ 7302250) :
    ∀ (n i : Nat), L < i + n → i ≤ L + 5 → ∀ (S T : St) (H : Heap) (locs : List Loc) (ls : Array Slot), Rel S T → WW D cs aC aM AC AM S T H → va_S (AZ s) s.heap H locs → lv_has ls 4 (lvL b aC aM i) → W p l e room_1 s m #[Value.ref b] below meth c H locs cells slots (lw_Z below #[Value.ref b] s) (F0 m 18 ls []) := by
  obtain ⟨F, hK, hX, hbl, -, -, -, hL⟩ := id X
  have hbA : ¬ AZ s b := Nat.not_le.mpr hbl
  have fin : ∀ (H : Heap) (locs : List Loc) (ls : Array Slot), va_S (AZ s) s.heap H locs → W p l e room_1 s m #[Value.ref b] below meth c H locs cells slots (lw_Z below #[Value.ref b] s) (F0 m 836 ls []) := by
    intro H locs ls hS
    refine lv_iconst (v := 1) F.1 F.2.1 dL_law_836 (by decide) ?_
    refine va_forget hS.2.2 ?_
    refine W.widen hc.1 hc.2 ?_
    exact lw_ret F.1 F.2.1 hr hlk dL_law_837
  intro n
  induction n with
  | zero =>
    intro i hn hi S T H locs ls hR hW hS hl
    refine lv_iload_n F.1 F.2.1 dL_law_18 rfl (lv_at hl 3 rfl) ?_
    refine lv_aload_n F.1 F.2.1 dL_law_19 rfl (lv_at hl 0 rfl) ?_
    refine va_slen F.1 F.2.1 hX hbl hbA hS dL_law_20 ?_
    refine lv_iconst (v := 5) F.1 F.2.1 dL_law_21 (by decide) ?_
    refine lv_isub F.1 F.2.1 dL_law_22 ?_
    refine lv_icmp_gt (tgt := 836) F.1 F.2.1 dL_law_23 (by decide) (fun _ => fin H locs ls hS) (fun q => ?_)
    exfalso
    rw [Int32.lt_iff_toInt_lt, len5 hL, nI_toInt (by omega)] at q
    omega
  | succ n ih =>
    intro i hn hi S T H locs ls hR hW hS hl
    refine lv_iload_n F.1 F.2.1 dL_law_18 rfl (lv_at hl 3 rfl) ?_
    refine lv_aload_n F.1 F.2.1 dL_law_19 rfl (lv_at hl 0 rfl) ?_
    refine va_slen F.1 F.2.1 hX hbl hbA hS dL_law_20 ?_
    refine lv_iconst (v := 5) F.1 F.2.1 dL_law_21 (by decide) ?_
    refine lv_isub F.1 F.2.1 dL_law_22 ?_
    refine lv_icmp_gt (tgt := 836) F.1 F.2.1 dL_law_23 (by decide) (fun _ => fin H locs ls hS) (fun q => ?_)
    rw [Int32.lt_iff_toInt_lt, len5 hL, nI_toInt (by omega)] at q
    have hi5 : i + 5 ≤ L := by omega
    refine lv_aload_n F.1 F.2.1 dL_law_26 rfl (lv_at hl 0 rfl) ?_
    refine lv_iload_n F.1 F.2.1 dL_law_27 rfl (lv_at hl 3 rfl) ?_
    refine va_sld F.1 F.2.1 hX hbl hbA hS (vp_in_nI (by omega) (by omega)) dL_law_28 ?_
    refine lv_bipush (v := 31) F.1 F.2.1 dL_law_29 (by decide) ?_
    refine lv_iand F.1 F.2.1 dL_law_31 ?_
    refine law_switch X hR hW hS hl hi5 hc (fun S1 T1 H1 locs1 hR1 hW1 hS1 => ?_) _
    refine lv_iinc (v := nI (i + 5)) (lv' := [(3, .int (nI (i + 5))), (0, .ref b), (1, .ref (aC 0 0)), (2, .ref (aM 0 0))]) F.1 F.2.1 dL_law_830 hl (k := 3) rfl (nI_add i 5) (by decide) rfl (fun ls hl => ?_)
    refine lv_goto (tgt := 18) F.1 F.2.1 dL_law_833 (by decide) ?_
    exact ih (i + 5) (by omega) (by omega) S1 T1 H1 locs1 ls hR1 hW1 hS1 (lv_sub hl [1, 2, 3, 0] rfl)
