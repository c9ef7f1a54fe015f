set_option maxHeartbeats 4000000 in
set_option maxRecDepth 100000 in
theorem law_c16 {p : Program} {l : Launch} {e : Env} {s : State} {m : MethodId} {b L : Nat} {xs : Nat → Int32} {below : List Frame} {meth : Method} {c : Code} {H : Heap} {locs : List Loc} {cells slots : Nat} {Q : State → Prop} {D : va_G} {cs : CS} {aC aM : Nat → Nat → Nat} {AC AM : Nat → Prop} {S T : St} {ls : Array Slot} {i : Nat} (X : LCx p m c s b L xs D cs AC AM) (hR : Rel S T) (hW : WW D cs aC aM AC AM S T H) (hS : va_S (AZ s) s.heap H locs) (hl : lv_has ls 4 (lvL b aC aM i)) (hi : i + 5 ≤ L) (hc : cells ≤ 600000 ∧ slots ≤ 7302250) (K : ∀ (S1 T1 : St) (H1 : Heap) (locs1 : List Loc), Rel S1 T1 → WW D cs aC aM AC AM S1 T1 H1 → va_S (AZ s) s.heap H1 locs1 → W p l e room_1 s m #[Value.ref b] below meth c H1 locs1 cells slots Q (F0 m 830 ls [])) : W p l e room_1 s m #[Value.ref b] below meth c H locs cells slots Q (F0 m 598 ls []) := by
  obtain ⟨r, S1, T1, h1, h2, hR1⟩ := s_arrival hR (xs (i + 1))
  refine lv_aload_n X.1.1 X.1.2.1 dL_law_598 rfl (lv_at hl 1 rfl) ?_
  refine lx_arg X hS hl hi 1 (by decide) (by decide) dL_law_599 dL_law_600 dL_law_601 dL_law_602 dL_law_603 ?_
  refine lx_ci (rest := []) X hW hS [.int (xs (i + 1))] (c_X8_arrival l (D, cs, aC) AC (xs (i + 1)) S (r, S1) h1) (cwV 1 X.1.2.2.2.2 gL_law_X8_arrival rfl rfl rfl (by decide +kernel) ⟨Nat.le_of_ble_eq_true rfl, Nat.le_of_ble_eq_true rfl⟩) rfl hl.1 rfl (Nat.le_of_ble_eq_true rfl) dL_law_604 hc (fun H locs hW hS => ?_)
  refine lv_aload_n X.1.1 X.1.2.1 dL_law_607 rfl (lv_at hl 2 rfl) ?_
  refine lx_arg X hS hl hi 1 (by decide) (by decide) dL_law_608 dL_law_609 dL_law_610 dL_law_611 dL_law_612 ?_
  refine lx_mi (rest := [.int r]) X hW hS [.int (xs (i + 1))] (c_X9_arrival l (D, cs, aM) AM (xs (i + 1)) T (r, T1) h2) (cwV 1 X.1.2.2.2.2 gL_law_X9_arrival rfl rfl rfl (by decide +kernel) ⟨Nat.le_of_ble_eq_true rfl, Nat.le_of_ble_eq_true rfl⟩) rfl hl.1 rfl (Nat.le_of_ble_eq_true rfl) dL_law_613 hc (fun H locs hW hS => ?_)
  exact lv_icmp_eq (tgt := 830) X.1.1 X.1.2.1 dL_law_616 (by decide) (fun _ => K S1 T1 H locs hR1 hW hS) (fun q => absurd rfl q)
set_option maxHeartbeats 4000000 in
set_option maxRecDepth 100000 in
theorem law_c17 {p : Program} {l : Launch} {e : Env} {s : State} {m : MethodId} {b L : Nat} {xs : Nat → Int32} {below : List Frame} {meth : Method} {c : Code} {H : Heap} {locs : List Loc} {cells slots : Nat} {Q : State → Prop} {D : va_G} {cs : CS} {aC aM : Nat → Nat → Nat} {AC AM : Nat → Prop} {S T : St} {ls : Array Slot} {i : Nat} (X : LCx p m c s b L xs D cs AC AM) (hR : Rel S T) (hW : WW D cs aC aM AC AM S T H) (hS : va_S (AZ s) s.heap H locs) (hl : lv_has ls 4 (lvL b aC aM i)) (hi : i + 5 ≤ L) (hc : cells ≤ 600000 ∧ slots ≤ 7302250) (K : ∀ (S1 T1 : St) (H1 : Heap) (locs1 : List Loc), Rel S1 T1 → WW D cs aC aM AC AM S1 T1 H1 → va_S (AZ s) s.heap H1 locs1 → W p l e room_1 s m #[Value.ref b] below meth c H1 locs1 cells slots Q (F0 m 830 ls [])) : W p l e room_1 s m #[Value.ref b] below meth c H locs cells slots Q (F0 m 621 ls []) := by
  obtain ⟨r, S1, T1, h1, h2, hR1⟩ := s_worth hR (xs (i + 1))
  refine lv_aload_n X.1.1 X.1.2.1 dL_law_621 rfl (lv_at hl 1 rfl) ?_
  refine lx_arg X hS hl hi 1 (by decide) (by decide) dL_law_622 dL_law_623 dL_law_624 dL_law_625 dL_law_626 ?_
  refine lx_ci (rest := []) X hW hS [.int (xs (i + 1))] (c_X8_worth l (D, cs, aC) AC (xs (i + 1)) S (r, S1) h1) (cwV 1 X.1.2.2.2.2 gL_law_X8_worth rfl rfl rfl (by decide +kernel) ⟨Nat.le_of_ble_eq_true rfl, Nat.le_of_ble_eq_true rfl⟩) rfl hl.1 rfl (Nat.le_of_ble_eq_true rfl) dL_law_627 hc (fun H locs hW hS => ?_)
  refine lv_aload_n X.1.1 X.1.2.1 dL_law_630 rfl (lv_at hl 2 rfl) ?_
  refine lx_arg X hS hl hi 1 (by decide) (by decide) dL_law_631 dL_law_632 dL_law_633 dL_law_634 dL_law_635 ?_
  refine lx_mi (rest := [.int r]) X hW hS [.int (xs (i + 1))] (c_X9_worth l (D, cs, aM) AM (xs (i + 1)) T (r, T1) h2) (cwV 1 X.1.2.2.2.2 gL_law_X9_worth rfl rfl rfl (by decide +kernel) ⟨Nat.le_of_ble_eq_true rfl, Nat.le_of_ble_eq_true rfl⟩) rfl hl.1 rfl (Nat.le_of_ble_eq_true rfl) dL_law_636 hc (fun H locs hW hS => ?_)
  exact lv_icmp_eq (tgt := 830) X.1.1 X.1.2.1 dL_law_639 (by decide) (fun _ => K S1 T1 H locs hR1 hW hS) (fun q => absurd rfl q)
set_option maxHeartbeats 4000000 in
set_option maxRecDepth 100000 in
theorem law_c18 {p : Program} {l : Launch} {e : Env} {s : State} {m : MethodId} {b L : Nat} {xs : Nat → Int32} {below : List Frame} {meth : Method} {c : Code} {H : Heap} {locs : List Loc} {cells slots : Nat} {Q : State → Prop} {D : va_G} {cs : CS} {aC aM : Nat → Nat → Nat} {AC AM : Nat → Prop} {S T : St} {ls : Array Slot} {i : Nat} (X : LCx p m c s b L xs D cs AC AM) (hR : Rel S T) (hW : WW D cs aC aM AC AM S T H) (hS : va_S (AZ s) s.heap H locs) (hl : lv_has ls 4 (lvL b aC aM i)) (hi : i + 5 ≤ L) (hc : cells ≤ 600000 ∧ slots ≤ 7302250) (K : ∀ (S1 T1 : St) (H1 : Heap) (locs1 : List Loc), Rel S1 T1 → WW D cs aC aM AC AM S1 T1 H1 → va_S (AZ s) s.heap H1 locs1 → W p l e room_1 s m #[Value.ref b] below meth c H1 locs1 cells slots Q (F0 m 830 ls [])) : W p l e room_1 s m #[Value.ref b] below meth c H locs cells slots Q (F0 m 644 ls []) := by
  obtain ⟨r, S1, T1, h1, h2, hR1⟩ := s_run hR (lwd (xs (i + 1)) (xs (i + 2)))
  refine lv_aload_n X.1.1 X.1.2.1 dL_law_644 rfl (lv_at hl 1 rfl) ?_
  refine lx_long X hS hl hi dL_law_645 dL_law_646 dL_law_647 dL_law_648 dL_law_649 dL_law_650 dL_law_651 dL_law_653 dL_law_654 dL_law_655 dL_law_656 dL_law_657 dL_law_658 dL_law_659 dL_law_660 dL_law_663 dL_law_664 (by decide +kernel) ?_
  refine lx_ci (rest := []) X hW hS [.long (lwd (xs (i + 1)) (xs (i + 2)))] (c_X8_run l (D, cs, aC) AC (lwd (xs (i + 1)) (xs (i + 2))) S (r, S1) h1) (cwV 1 X.1.2.2.2.2 gL_law_X8_run rfl rfl rfl (by decide +kernel) ⟨Nat.le_of_ble_eq_true rfl, Nat.le_of_ble_eq_true rfl⟩) rfl hl.1 rfl (Nat.le_of_ble_eq_true rfl) dL_law_665 hc (fun H locs hW hS => ?_)
  refine lv_aload_n X.1.1 X.1.2.1 dL_law_668 rfl (lv_at hl 2 rfl) ?_
  refine lx_long X hS hl hi dL_law_669 dL_law_670 dL_law_671 dL_law_672 dL_law_673 dL_law_674 dL_law_675 dL_law_677 dL_law_678 dL_law_679 dL_law_680 dL_law_681 dL_law_682 dL_law_683 dL_law_684 dL_law_687 dL_law_688 (by decide +kernel) ?_
  refine lx_mi (rest := [.int r]) X hW hS [.long (lwd (xs (i + 1)) (xs (i + 2)))] (c_X9_run l (D, cs, aM) AM (lwd (xs (i + 1)) (xs (i + 2))) T (r, T1) h2) (cwV 1 X.1.2.2.2.2 gL_law_X9_run rfl rfl rfl (by decide +kernel) ⟨Nat.le_of_ble_eq_true rfl, Nat.le_of_ble_eq_true rfl⟩) rfl hl.1 rfl (Nat.le_of_ble_eq_true rfl) dL_law_689 hc (fun H locs hW hS => ?_)
  exact lv_icmp_eq (tgt := 830) X.1.1 X.1.2.1 dL_law_692 (by decide) (fun _ => K S1 T1 H locs hR1 hW hS) (fun q => absurd rfl q)
set_option maxHeartbeats 4000000 in
set_option maxRecDepth 100000 in
theorem law_c19 {p : Program} {l : Launch} {e : Env} {s : State} {m : MethodId} {b L : Nat} {xs : Nat → Int32} {below : List Frame} {meth : Method} {c : Code} {H : Heap} {locs : List Loc} {cells slots : Nat} {Q : State → Prop} {D : va_G} {cs : CS} {aC aM : Nat → Nat → Nat} {AC AM : Nat → Prop} {S T : St} {ls : Array Slot} {i : Nat} (X : LCx p m c s b L xs D cs AC AM) (hR : Rel S T) (hW : WW D cs aC aM AC AM S T H) (hS : va_S (AZ s) s.heap H locs) (hl : lv_has ls 4 (lvL b aC aM i)) (hi : i + 5 ≤ L) (hc : cells ≤ 600000 ∧ slots ≤ 7302250) (K : ∀ (S1 T1 : St) (H1 : Heap) (locs1 : List Loc), Rel S1 T1 → WW D cs aC aM AC AM S1 T1 H1 → va_S (AZ s) s.heap H1 locs1 → W p l e room_1 s m #[Value.ref b] below meth c H1 locs1 cells slots Q (F0 m 830 ls [])) : W p l e room_1 s m #[Value.ref b] below meth c H locs cells slots Q (F0 m 697 ls []) := by
  obtain ⟨r, S1, T1, h1, h2, hR1⟩ := s_mapped hR (lwd (xs (i + 1)) (xs (i + 2)))
  refine lv_aload_n X.1.1 X.1.2.1 dL_law_697 rfl (lv_at hl 1 rfl) ?_
  refine lx_long X hS hl hi dL_law_698 dL_law_699 dL_law_700 dL_law_701 dL_law_702 dL_law_703 dL_law_704 dL_law_706 dL_law_707 dL_law_708 dL_law_709 dL_law_710 dL_law_711 dL_law_712 dL_law_713 dL_law_716 dL_law_717 (by decide +kernel) ?_
  refine lx_ci (rest := []) X hW hS [.long (lwd (xs (i + 1)) (xs (i + 2)))] (c_X8_mapped l (D, cs, aC) AC (lwd (xs (i + 1)) (xs (i + 2))) S (r, S1) h1) (cwV 1 X.1.2.2.2.2 gL_law_X8_mapped rfl rfl rfl (by decide +kernel) ⟨Nat.le_of_ble_eq_true rfl, Nat.le_of_ble_eq_true rfl⟩) rfl hl.1 rfl (Nat.le_of_ble_eq_true rfl) dL_law_718 hc (fun H locs hW hS => ?_)
  refine lv_aload_n X.1.1 X.1.2.1 dL_law_721 rfl (lv_at hl 2 rfl) ?_
  refine lx_long X hS hl hi dL_law_722 dL_law_723 dL_law_724 dL_law_725 dL_law_726 dL_law_727 dL_law_728 dL_law_730 dL_law_731 dL_law_732 dL_law_733 dL_law_734 dL_law_735 dL_law_736 dL_law_737 dL_law_740 dL_law_741 (by decide +kernel) ?_
  refine lx_mi (rest := [.int r]) X hW hS [.long (lwd (xs (i + 1)) (xs (i + 2)))] (c_X9_mapped l (D, cs, aM) AM (lwd (xs (i + 1)) (xs (i + 2))) T (r, T1) h2) (cwV 1 X.1.2.2.2.2 gL_law_X9_mapped rfl rfl rfl (by decide +kernel) ⟨Nat.le_of_ble_eq_true rfl, Nat.le_of_ble_eq_true rfl⟩) rfl hl.1 rfl (Nat.le_of_ble_eq_true rfl) dL_law_742 hc (fun H locs hW hS => ?_)
  exact lv_icmp_eq (tgt := 830) X.1.1 X.1.2.1 dL_law_745 (by decide) (fun _ => K S1 T1 H locs hR1 hW hS) (fun q => absurd rfl q)
set_option maxHeartbeats 4000000 in
set_option maxRecDepth 100000 in
theorem law_c20 {p : Program} {l : Launch} {e : Env} {s : State} {m : MethodId} {b L : Nat} {xs : Nat → Int32} {below : List Frame} {meth : Method} {c : Code} {H : Heap} {locs : List Loc} {cells slots : Nat} {Q : State → Prop} {D : va_G} {cs : CS} {aC aM : Nat → Nat → Nat} {AC AM : Nat → Prop} {S T : St} {ls : Array Slot} {i : Nat} (X : LCx p m c s b L xs D cs AC AM) (hR : Rel S T) (hW : WW D cs aC aM AC AM S T H) (hS : va_S (AZ s) s.heap H locs) (hl : lv_has ls 4 (lvL b aC aM i)) (hi : i + 5 ≤ L) (hc : cells ≤ 600000 ∧ slots ≤ 7302250) (K : ∀ (S1 T1 : St) (H1 : Heap) (locs1 : List Loc), Rel S1 T1 → WW D cs aC aM AC AM S1 T1 H1 → va_S (AZ s) s.heap H1 locs1 → W p l e room_1 s m #[Value.ref b] below meth c H1 locs1 cells slots Q (F0 m 830 ls [])) : W p l e room_1 s m #[Value.ref b] below meth c H locs cells slots Q (F0 m 750 ls []) := by
  obtain ⟨r, S1, T1, h1, h2, hR1⟩ := s_about hR (xs (i + 1)) (xs (i + 2)) (xs (i + 3))
  refine lv_aload_n X.1.1 X.1.2.1 dL_law_750 rfl (lv_at hl 1 rfl) ?_
  refine lx_arg X hS hl hi 1 (by decide) (by decide) dL_law_751 dL_law_752 dL_law_753 dL_law_754 dL_law_755 ?_
  refine lx_arg X hS hl hi 2 (by decide) (by decide) dL_law_756 dL_law_757 dL_law_758 dL_law_759 dL_law_760 ?_
  refine lx_arg X hS hl hi 3 (by decide) (by decide) dL_law_761 dL_law_762 dL_law_763 dL_law_764 dL_law_765 ?_
  refine lx_ci (rest := []) X hW hS [.int (xs (i + 1)), .int (xs (i + 2)), .int (xs (i + 3))] (c_X8_about l (D, cs, aC) AC (xs (i + 1)) (xs (i + 2)) (xs (i + 3)) S (r, S1) h1) (cwV 3 X.1.2.2.2.2 gL_law_X8_about rfl rfl rfl (by decide +kernel) ⟨Nat.le_of_ble_eq_true rfl, Nat.le_of_ble_eq_true rfl⟩) rfl hl.1 rfl (Nat.le_of_ble_eq_true rfl) dL_law_766 hc (fun H locs hW hS => ?_)
  refine lv_aload_n X.1.1 X.1.2.1 dL_law_769 rfl (lv_at hl 2 rfl) ?_
  refine lx_arg X hS hl hi 1 (by decide) (by decide) dL_law_770 dL_law_771 dL_law_772 dL_law_773 dL_law_774 ?_
  refine lx_arg X hS hl hi 2 (by decide) (by decide) dL_law_775 dL_law_776 dL_law_777 dL_law_778 dL_law_779 ?_
  refine lx_arg X hS hl hi 3 (by decide) (by decide) dL_law_780 dL_law_781 dL_law_782 dL_law_783 dL_law_784 ?_
  refine lx_mi (rest := [.int r]) X hW hS [.int (xs (i + 1)), .int (xs (i + 2)), .int (xs (i + 3))] (c_X9_about l (D, cs, aM) AM (xs (i + 1)) (xs (i + 2)) (xs (i + 3)) T (r, T1) h2) (cwV 3 X.1.2.2.2.2 gL_law_X9_about rfl rfl rfl (by decide +kernel) ⟨Nat.le_of_ble_eq_true rfl, Nat.le_of_ble_eq_true rfl⟩) rfl hl.1 rfl (Nat.le_of_ble_eq_true rfl) dL_law_785 hc (fun H locs hW hS => ?_)
  exact lv_icmp_eq (tgt := 830) X.1.1 X.1.2.1 dL_law_788 (by decide) (fun _ => K S1 T1 H locs hR1 hW hS) (fun q => absurd rfl q)
set_option maxHeartbeats 4000000 in
set_option maxRecDepth 100000 in
theorem law_c21 {p : Program} {l : Launch} {e : Env} {s : State} {m : MethodId} {b L : Nat} {xs : Nat → Int32} {below : List Frame} {meth : Method} {c : Code} {H : Heap} {locs : List Loc} {cells slots : Nat} {Q : State → Prop} {D : va_G} {cs : CS} {aC aM : Nat → Nat → Nat} {AC AM : Nat → Prop} {S T : St} {ls : Array Slot} {i : Nat} (X : LCx p m c s b L xs D cs AC AM) (hR : Rel S T) (hW : WW D cs aC aM AC AM S T H) (hS : va_S (AZ s) s.heap H locs) (hl : lv_has ls 4 (lvL b aC aM i)) (hi : i + 5 ≤ L) (hc : cells ≤ 600000 ∧ slots ≤ 7302250) (K : ∀ (S1 T1 : St) (H1 : Heap) (locs1 : List Loc), Rel S1 T1 → WW D cs aC aM AC AM S1 T1 H1 → va_S (AZ s) s.heap H1 locs1 → W p l e room_1 s m #[Value.ref b] below meth c H1 locs1 cells slots Q (F0 m 830 ls [])) : W p l e room_1 s m #[Value.ref b] below meth c H locs cells slots Q (F0 m 793 ls []) := by
  obtain ⟨r, S1, T1, h1, h2, hR1⟩ := s_count hR (xs (i + 1))
  refine lv_aload_n X.1.1 X.1.2.1 dL_law_793 rfl (lv_at hl 1 rfl) ?_
  refine lx_arg X hS hl hi 1 (by decide) (by decide) dL_law_794 dL_law_795 dL_law_796 dL_law_797 dL_law_798 ?_
  refine lx_ci (rest := []) X hW hS [.int (xs (i + 1))] (c_X8_count l (D, cs, aC) AC (xs (i + 1)) S (r, S1) h1) (cwV 1 X.1.2.2.2.2 gL_law_X8_count rfl rfl rfl (by decide +kernel) ⟨Nat.le_of_ble_eq_true rfl, Nat.le_of_ble_eq_true rfl⟩) rfl hl.1 rfl (Nat.le_of_ble_eq_true rfl) dL_law_799 hc (fun H locs hW hS => ?_)
  refine lv_aload_n X.1.1 X.1.2.1 dL_law_802 rfl (lv_at hl 2 rfl) ?_
  refine lx_arg X hS hl hi 1 (by decide) (by decide) dL_law_803 dL_law_804 dL_law_805 dL_law_806 dL_law_807 ?_
  refine lx_mi (rest := [.int r]) X hW hS [.int (xs (i + 1))] (c_X9_count l (D, cs, aM) AM (xs (i + 1)) T (r, T1) h2) (cwV 1 X.1.2.2.2.2 gL_law_X9_count rfl rfl rfl (by decide +kernel) ⟨Nat.le_of_ble_eq_true rfl, Nat.le_of_ble_eq_true rfl⟩) rfl hl.1 rfl (Nat.le_of_ble_eq_true rfl) dL_law_808 hc (fun H locs hW hS => ?_)
  exact lv_icmp_eq (tgt := 830) X.1.1 X.1.2.1 dL_law_811 (by decide) (fun _ => K S1 T1 H locs hR1 hW hS) (fun q => absurd rfl q)
set_option maxHeartbeats 4000000 in
set_option maxRecDepth 100000 in
theorem law_c22 {p : Program} {l : Launch} {e : Env} {s : State} {m : MethodId} {b L : Nat} {xs : Nat → Int32} {below : List Frame} {meth : Method} {c : Code} {H : Heap} {locs : List Loc} {cells slots : Nat} {Q : State → Prop} {D : va_G} {cs : CS} {aC aM : Nat → Nat → Nat} {AC AM : Nat → Prop} {S T : St} {ls : Array Slot} {i : Nat} (X : LCx p m c s b L xs D cs AC AM) (hR : Rel S T) (hW : WW D cs aC aM AC AM S T H) (hS : va_S (AZ s) s.heap H locs) (hl : lv_has ls 4 (lvL b aC aM i)) (hi : i + 5 ≤ L) (hc : cells ≤ 600000 ∧ slots ≤ 7302250) (K : ∀ (S1 T1 : St) (H1 : Heap) (locs1 : List Loc), Rel S1 T1 → WW D cs aC aM AC AM S1 T1 H1 → va_S (AZ s) s.heap H1 locs1 → W p l e room_1 s m #[Value.ref b] below meth c H1 locs1 cells slots Q (F0 m 830 ls [])) : W p l e room_1 s m #[Value.ref b] below meth c H locs cells slots Q (F0 m 816 ls []) := by
  obtain ⟨r, S1, T1, h1, h2, hR1⟩ := s_digest hR 
  refine lv_aload_n X.1.1 X.1.2.1 dL_law_816 rfl (lv_at hl 1 rfl) ?_
  refine lx_cl (rest := []) X hW hS [] (c_X8_digest l (D, cs, aC) AC  S (r, S1) h1) (cwV 0 X.1.2.2.2.2 gL_law_X8_digest rfl rfl rfl (by decide +kernel) ⟨Nat.le_of_ble_eq_true rfl, Nat.le_of_ble_eq_true rfl⟩) rfl hl.1 rfl (Nat.le_of_ble_eq_true rfl) dL_law_817 hc (fun H locs hW hS => ?_)
  refine lv_aload_n X.1.1 X.1.2.1 dL_law_820 rfl (lv_at hl 2 rfl) ?_
  refine lx_ml (rest := [.long r]) X hW hS [] (c_X9_digest l (D, cs, aM) AM  T (r, T1) h2) (cwV 0 X.1.2.2.2.2 gL_law_X9_digest rfl rfl rfl (by decide +kernel) ⟨Nat.le_of_ble_eq_true rfl, Nat.le_of_ble_eq_true rfl⟩) rfl hl.1 rfl (Nat.le_of_ble_eq_true rfl) dL_law_821 hc (fun H locs hW hS => ?_)
  refine W.lcmp X.1.1 X.1.2.1 dL_law_824 ?_
  exact lv_if_eq (tgt := 830) X.1.1 X.1.2.1 dL_law_825 (by decide) (fun _ => K S1 T1 H locs hR1 hW hS) (fun q => absurd (lg_cmp_self r) q)
set_option maxHeartbeats 4000000 in
set_option maxRecDepth 100000 in
theorem law_switch {p : Program} {l : Launch} {e : Env} {s : State} {m : MethodId} {b L : Nat} {xs : Nat → Int32} {below : List Frame} {meth : Method} {c : Code} {H : Heap} {locs : List Loc} {cells slots : Nat} {Q : State → Prop} {D : va_G} {cs : CS} {aC aM : Nat → Nat → Nat} {AC AM : Nat → Prop} {S T : St} {ls : Array Slot} {i : Nat} (X : LCx p m c s b L xs D cs AC AM) (hR : Rel S T) (hW : WW D cs aC aM AC AM S T H) (hS : va_S (AZ s) s.heap H locs) (hl : lv_has ls 4 (lvL b aC aM i)) (hi : i + 5 ≤ L) (hc : cells ≤ 600000 ∧ slots ≤ 7302250) (K : ∀ (S1 T1 : St) (H1 : Heap) (locs1 : List Loc), Rel S1 T1 → WW D cs aC aM AC AM S1 T1 H1 → va_S (AZ s) s.heap H1 locs1 → W p l e room_1 s m #[Value.ref b] below meth c H1 locs1 cells slots Q (F0 m 830 ls [])) (x : Int32) : W p l e room_1 s m #[Value.ref b] below meth c H locs cells slots Q (F0 m 32 ls [.int x]) := by
  by_cases c0 : x = 0
  · refine lv_tableIn (off := 108) (tgt := 140) X.1.1 X.1.2.1 dL_law_32 (by rw [c0]; decide) (by rw [c0]; decide) (by rw [c0]; rfl) (by decide) ?_
    exact law_c0 X hR hW hS hl hi hc K
  by_cases c1 : x = 1
  · refine lv_tableIn (off := 121) (tgt := 153) X.1.1 X.1.2.1 dL_law_32 (by rw [c1]; decide) (by rw [c1]; decide) (by rw [c1]; rfl) (by decide) ?_
    exact law_c1 X hR hW hS hl hi hc K
  by_cases c2 : x = 2
  · refine lv_tableIn (off := 174) (tgt := 206) X.1.1 X.1.2.1 dL_law_32 (by rw [c2]; decide) (by rw [c2]; decide) (by rw [c2]; rfl) (by decide) ?_
    exact law_c2 X hR hW hS hl hi hc K
  by_cases c3 : x = 3
  · refine lv_tableIn (off := 197) (tgt := 229) X.1.1 X.1.2.1 dL_law_32 (by rw [c3]; decide) (by rw [c3]; decide) (by rw [c3]; rfl) (by decide) ?_
    exact law_c3 X hR hW hS hl hi hc K
  by_cases c4 : x = 4
  · refine lv_tableIn (off := 260) (tgt := 292) X.1.1 X.1.2.1 dL_law_32 (by rw [c4]; decide) (by rw [c4]; decide) (by rw [c4]; rfl) (by decide) ?_
    exact law_c4 X hR hW hS hl hi hc K
  by_cases c5 : x = 5
  · refine lv_tableIn (off := 273) (tgt := 305) X.1.1 X.1.2.1 dL_law_32 (by rw [c5]; decide) (by rw [c5]; decide) (by rw [c5]; rfl) (by decide) ?_
    exact law_c5 X hR hW hS hl hi hc K
  by_cases c6 : x = 6
  · refine lv_tableIn (off := 286) (tgt := 318) X.1.1 X.1.2.1 dL_law_32 (by rw [c6]; decide) (by rw [c6]; decide) (by rw [c6]; rfl) (by decide) ?_
    exact law_c6 X hR hW hS hl hi hc K
  by_cases c7 : x = 7
  · refine lv_tableIn (off := 309) (tgt := 341) X.1.1 X.1.2.1 dL_law_32 (by rw [c7]; decide) (by rw [c7]; decide) (by rw [c7]; rfl) (by decide) ?_
    exact law_c7 X hR hW hS hl hi hc K
  by_cases c8 : x = 8
  · refine lv_tableIn (off := 322) (tgt := 354) X.1.1 X.1.2.1 dL_law_32 (by rw [c8]; decide) (by rw [c8]; decide) (by rw [c8]; rfl) (by decide) ?_
    exact law_c8 X hR hW hS hl hi hc K
  by_cases c9 : x = 9
  · refine lv_tableIn (off := 345) (tgt := 377) X.1.1 X.1.2.1 dL_law_32 (by rw [c9]; decide) (by rw [c9]; decide) (by rw [c9]; rfl) (by decide) ?_
    exact law_c9 X hR hW hS hl hi hc K
  by_cases c10 : x = 10
  · refine lv_tableIn (off := 378) (tgt := 410) X.1.1 X.1.2.1 dL_law_32 (by rw [c10]; decide) (by rw [c10]; decide) (by rw [c10]; rfl) (by decide) ?_
    exact law_c10 X hR hW hS hl hi hc K
  by_cases c11 : x = 11
  · refine lv_tableIn (off := 411) (tgt := 443) X.1.1 X.1.2.1 dL_law_32 (by rw [c11]; decide) (by rw [c11]; decide) (by rw [c11]; rfl) (by decide) ?_
    exact law_c11 X hR hW hS hl hi hc K
  by_cases c12 : x = 12
  · refine lv_tableIn (off := 464) (tgt := 496) X.1.1 X.1.2.1 dL_law_32 (by rw [c12]; decide) (by rw [c12]; decide) (by rw [c12]; rfl) (by decide) ?_
    exact law_c12 X hR hW hS hl hi hc K
  by_cases c13 : x = 13
  · refine lv_tableIn (off := 487) (tgt := 519) X.1.1 X.1.2.1 dL_law_32 (by rw [c13]; decide) (by rw [c13]; decide) (by rw [c13]; rfl) (by decide) ?_
    exact law_c13 X hR hW hS hl hi hc K
  by_cases c14 : x = 14
  · refine lv_tableIn (off := 520) (tgt := 552) X.1.1 X.1.2.1 dL_law_32 (by rw [c14]; decide) (by rw [c14]; decide) (by rw [c14]; rfl) (by decide) ?_
    exact law_c14 X hR hW hS hl hi hc K
  by_cases c15 : x = 15
  · refine lv_tableIn (off := 553) (tgt := 585) X.1.1 X.1.2.1 dL_law_32 (by rw [c15]; decide) (by rw [c15]; decide) (by rw [c15]; rfl) (by decide) ?_
    exact law_c15 X hR hW hS hl hi hc K
  by_cases c16 : x = 16
  · refine lv_tableIn (off := 566) (tgt := 598) X.1.1 X.1.2.1 dL_law_32 (by rw [c16]; decide) (by rw [c16]; decide) (by rw [c16]; rfl) (by decide) ?_
    exact law_c16 X hR hW hS hl hi hc K
  by_cases c17 : x = 17
  · refine lv_tableIn (off := 589) (tgt := 621) X.1.1 X.1.2.1 dL_law_32 (by rw [c17]; decide) (by rw [c17]; decide) (by rw [c17]; rfl) (by decide) ?_
    exact law_c17 X hR hW hS hl hi hc K
  by_cases c18 : x = 18
  · refine lv_tableIn (off := 612) (tgt := 644) X.1.1 X.1.2.1 dL_law_32 (by rw [c18]; decide) (by rw [c18]; decide) (by rw [c18]; rfl) (by decide) ?_
    exact law_c18 X hR hW hS hl hi hc K
  by_cases c19 : x = 19
  · refine lv_tableIn (off := 665) (tgt := 697) X.1.1 X.1.2.1 dL_law_32 (by rw [c19]; decide) (by rw [c19]; decide) (by rw [c19]; rfl) (by decide) ?_
    exact law_c19 X hR hW hS hl hi hc K
  by_cases c20 : x = 20
  · refine lv_tableIn (off := 718) (tgt := 750) X.1.1 X.1.2.1 dL_law_32 (by rw [c20]; decide) (by rw [c20]; decide) (by rw [c20]; rfl) (by decide) ?_
    exact law_c20 X hR hW hS hl hi hc K
  by_cases c21 : x = 21
  · refine lv_tableIn (off := 761) (tgt := 793) X.1.1 X.1.2.1 dL_law_32 (by rw [c21]; decide) (by rw [c21]; decide) (by rw [c21]; rfl) (by decide) ?_
    exact law_c21 X hR hW hS hl hi hc K
  by_cases c22 : x = 22
  · refine lv_tableIn (off := 784) (tgt := 816) X.1.1 X.1.2.1 dL_law_32 (by rw [c22]; decide) (by rw [c22]; decide) (by rw [c22]; rfl) (by decide) ?_
    exact law_c22 X hR hW hS hl hi hc K
  have n0 := lv_neT c0 (a := 0) (by decide)
  have n1 := lv_neT c1 (a := 1) (by decide)
  have n2 := lv_neT c2 (a := 2) (by decide)
  have n3 := lv_neT c3 (a := 3) (by decide)
  have n4 := lv_neT c4 (a := 4) (by decide)
  have n5 := lv_neT c5 (a := 5) (by decide)
  have n6 := lv_neT c6 (a := 6) (by decide)
  have n7 := lv_neT c7 (a := 7) (by decide)
  have n8 := lv_neT c8 (a := 8) (by decide)
  have n9 := lv_neT c9 (a := 9) (by decide)
  have n10 := lv_neT c10 (a := 10) (by decide)
  have n11 := lv_neT c11 (a := 11) (by decide)
  have n12 := lv_neT c12 (a := 12) (by decide)
  have n13 := lv_neT c13 (a := 13) (by decide)
  have n14 := lv_neT c14 (a := 14) (by decide)
  have n15 := lv_neT c15 (a := 15) (by decide)
  have n16 := lv_neT c16 (a := 16) (by decide)
  have n17 := lv_neT c17 (a := 17) (by decide)
  have n18 := lv_neT c18 (a := 18) (by decide)
  have n19 := lv_neT c19 (a := 19) (by decide)
  have n20 := lv_neT c20 (a := 20) (by decide)
  have n21 := lv_neT c21 (a := 21) (by decide)
  have n22 := lv_neT c22 (a := 22) (by decide)
  refine lv_tableOut (tgt := 830) X.1.1 X.1.2.1 dL_law_32 (by omega) (by decide) ?_
  exact K S T H locs hR hW hS
