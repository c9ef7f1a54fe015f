/-! Each call keeps the relation, and both answer alike -/
def Agr {α : Type} (f g : St → Option (α × St)) (S T : St) : Prop := ∃ r S' T', f S = some (r, S') ∧ g T = some (r, T') ∧ Rel S' T'
theorem s_input {S T : St} (h : Rel S T) : Agr f_X8_input f_X9_input S T := by
  obtain ⟨N, n, m, ou, c, lib, L, ln, tp, fl, cv, ho, hb, hc, hbm, hcm⟩ := h
  have len := ho.len
  obtain ⟨hw, hv, hl, hln⟩ := id ho
  obtain ⟨hn, hm, hN, hou⟩ := id hw
  have c20 := hl.1
  by_cases e : n = 40
  · have a : f_X8_input S = some (-3, S) := by
      unfold f_X8_input
      rw [hb.1.1.1, e, if_neg (show ¬ nI 40 < 40 from by decide)]
    have b : f_X9_input T = some (-3, T) := by
      unfold f_X9_input f_X9_newNode
      rw [hbm.1.1.1, e, if_pos (show nI 40 = 40 from rfl)]
      rfl
    exact ⟨_, _, _, a, b, Rel_same ho hb hc hbm hcm⟩
  · obtain ⟨S', a1, a2, a3, a4, a5⟩ := X_input hw hb.1 hb.2.1 (by omega) (by omega)
    obtain ⟨T', b1, b2, b3, b4, b5, b6⟩ := M_input hw hbm.1 hbm.2.1 (by omega) (by omega)
    exact ⟨_, _, _, a1, b1, Rel_net ho hb hbm ⟨WfN_add hw (by omega) ⟨by decide, fun q => absurd rfl q⟩, (show HV ou (0 :: L) (n+1) m c from ⟨n, rfl, hv⟩), hl, hln⟩ (thL_3 (by decide) L) a2 a3 a4 a5 b2 b3 b4 b5 ⟨b6 20 (by decide) (by decide) (by decide) (by decide) (by decide), b6 21 (by decide) (by decide) (by decide) (by decide) (by decide), b6 22 (by decide) (by decide) (by decide) (by decide) (by decide)⟩⟩
theorem s_gate {S T : St} (h : Rel S T) (x0 x1 x2 x3 : Int32) : Agr (f_X8_gate x0 x1 x2 x3) (f_X9_gate x0 x1 x2 x3) S T := by
  obtain ⟨N, n, m, ou, c, lib, L, ln, tp, fl, cv, ho, hb, hc, hbm, hcm⟩ := h
  have len := ho.len
  obtain ⟨hw, hv, hl, hln⟩ := id ho
  obtain ⟨hn, hm, hN, hou⟩ := id hw
  have c20 := hl.1
  cases hok : okG n x0 x1 x2 x3 with
  | false => exact ⟨_, _, _, X_gate_bad hn hb.1.1.1 hok, M_gate_bad hn hbm.1.1.1 hok, Rel_same ho hb hc hbm hcm⟩
  | true =>
    by_cases e : n = 40
    · have b : f_X9_gate x0 x1 x2 x3 T = some (-3, T) := by
        rw [M_gate_good hn hbm.1.1.1 hok]
        unfold f_X9_newNode
        rw [hbm.1.1.1, e, if_pos (show nI 40 = 40 from rfl)]
      exact ⟨_, _, _, X_gate_full e hb.1.1.1 hok, b, Rel_same ho hb hc hbm hcm⟩
    · obtain ⟨k, a, b, d, hk, ha, hbb, hd, e0, e1, e2, e20, e3, e30⟩ := okG_t hn hok
      have hq : okq n (k, a, b, d) := ⟨by show k ≤ 7; omega, fun _ => ⟨ha, hbb, hd⟩⟩
      obtain ⟨S', a1, a2, a3, a4, a5⟩ := X_gate_ok hw hb.1 hb.2.1 (by omega) (by omega) hk ha hbb hd e2 e20 e3 e30
      obtain ⟨T', b1, b2, b3, b4, b5, b6⟩ := M_newNode (q := (k, a, b, d)) (x := x0) (y := x1) (z := x2) (w := x3) hw hbm.1 hbm.2.1 (by omega) (by omega) hq (by rw [e0, if_neg (show ¬ k = 7 by omega)]) (fun _ => e1) (fun _ h => e2 h) (fun h => e3 h)
      rw [← e0, ← e1] at a1
      exact ⟨_, _, _, a1, by rw [M_gate_good hn hbm.1.1.1 hok]; exact b1, Rel_net ho hb hbm ⟨WfN_add hw (by omega) hq, (show HV ou (0 :: L) (n+1) m c from ⟨n, rfl, hv⟩), hl, hln⟩ (thL_3 (by decide) L) a2 a3 a4 a5 b2 b3 b4 b5 ⟨b6 20 (by decide) (by decide) (by decide) (by decide) (by decide), b6 21 (by decide) (by decide) (by decide) (by decide) (by decide), b6 22 (by decide) (by decide) (by decide) (by decide) (by decide)⟩⟩
theorem s_output {S T : St} (h : Rel S T) (x : Int32) : Agr (f_X8_output x) (f_X9_output x) S T := by
  obtain ⟨N, n, m, ou, c, lib, L, ln, tp, fl, cv, ho, hb, hc, hbm, hcm⟩ := h
  have len := ho.len
  obtain ⟨hw, hv, hl, hln⟩ := id ho
  obtain ⟨hn, hm, hN, hou⟩ := id hw
  have c20 := hl.1
  by_cases hno : inR x n = false ∨ (8 ≤ m ∧ m ≤ 8)
  · exact ⟨_, _, _, X_output_no hn hb.1.1.1 hb.1.1.2.1 x hno, M_output_no hn hbm.1.1.1 hbm.1.2.1 x hno, Rel_same ho hb hc hbm hcm⟩
  · have hin : inR x n = true := by
      cases q : inR x n with
      | true => rfl
      | false => exact absurd (Or.inl q) hno
    have m8 : m < 8 := by
      by_cases q : m < 8
      · exact q
      · exact absurd (Or.inr ⟨by omega, by omega⟩) hno
    obtain ⟨a, ha, rfl⟩ := inR_t hin (by omega)
    obtain ⟨S', a1, a2, a3, a4, a5⟩ := X_output_ok hw hb.1 hb.2.1 (by omega) m8 ha
    obtain ⟨T', b1, b2, b3, b4, b5, b6⟩ := M_output_ok hw hbm.1 hbm.2.1 (by omega) m8 ha
    refine ⟨_, _, _, a1, b1, Rel_net ho hb hbm ⟨WfN_out hw m8 ha, (show HV (addO ou m a) (1 :: L) n (m+1) c from ⟨m, rfl, ?_, HV_cg hv (fun o ho' => ?_)⟩), hl, hln⟩ (thL_3 (by decide) L) a2 a3 a4 a5 b2 b3 b4 b5 ⟨b6 20 (by decide) (by decide) (by decide) (by decide) (by decide), b6 21 (by decide) (by decide) (by decide) (by decide) (by decide), b6 22 (by decide) (by decide) (by decide) (by decide) (by decide)⟩⟩
    · show (if m = m then a else ou m) < n
      rw [if_pos rfl]; exact ha
    · show (if o = m then a else ou o) = ou o
      rw [if_neg (by omega)]
theorem s_type {S T : St} (h : Rel S T) (w : Int64) (x : Int32) : Agr (f_X8_type w x) (f_X9_type w x) S T := by
  obtain ⟨N, n, m, ou, c, lib, L, ln, tp, fl, cv, ho, hb, hc, hbm, hcm⟩ := h
  obtain ⟨hw, hv, hl, hln⟩ := id ho
  obtain ⟨x1, x2⟩ := X_type hln hb.2.2.2.1 w x
  obtain ⟨m1, m2⟩ := M_type hln hbm.2.2.2.1 w x
  by_cases hx : 1 ≤ x.toInt ∧ x.toInt ≤ 8
  · obtain ⟨k, hk, rfl⟩ : ∃ k, k ≤ 8 ∧ x = nI k := ⟨x.toInt.toNat, by omega, i32_eq (by rw [nI_toInt (by omega)]; omega)⟩
    have hk1 : 1 ≤ k := by
      rw [nI_toInt (by omega)] at hx
      omega
    obtain ⟨x3, x4⟩ := x2 k hk hk1 rfl
    obtain ⟨m3, m4⟩ := m2 k hk hk1 rfl
    by_cases e : 60 < ln + k
    · exact ⟨_, _, _, x3 e, m3 e, Rel_same ho hb hc hbm hcm⟩
    · obtain ⟨S', a1, a2, a3, a4⟩ := x4 (by omega)
      obtain ⟨T', b1, b2, b3, b4⟩ := m4 (by omega)
      refine ⟨_, _, _, a1, b1, N, n, m, ou, c, lib, L, ln + k, typ tp ln w k, fl, cv, ⟨hw, hv, hl, by omega⟩, ⟨hb.1.keep (a3.keep (by decide)), hb.2.1.keep (a3.keep (by decide)), hb.2.2.1.same (a3 4 0 (by decide)) (fun d _ => ⟨a3 8 d (by simp), a3 36 d (by simp)⟩), a2, by rw [a4 3 (by decide)]; exact hb.2.2.2.2⟩, CvC.same hc (a3.keep (by decide)), ⟨hbm.1.keep (b3.keep (by decide)) (fun j hj => b4 j (fun q => by subst q; revert hj; decide)), hbm.2.1.keep (b3.keep (by decide)) (fun j hj => b4 j (fun q => by subst q; revert hj; decide)), hbm.2.2.1.kp hl.sz (b4 22 (by decide)) (fun k hk => b3 k 0 (by rcases hk with rfl | rfl | rfl | rfl | rfl | rfl | rfl | rfl | rfl | rfl <;> decide)), b2, by rw [b4 21 (by decide)]; exact hbm.2.2.2.2⟩, CvM.fr hcm (b3.keep (by decide)) (fun j hj => b4 j (fun q => by subst q; revert hj; decide))⟩
  · exact ⟨_, _, _, x1 hx, m1 hx, Rel_same ho hb hc hbm hcm⟩
theorem thL_new {ou : Nat → Nat} {L : List Nat} {n m c : Nat} (h : HV ou L n m c) : addL (thL L) c true = thL (2 :: L) := by
  rw [thL_cell]
  funext d
  by_cases e : d = c
  · subst e
    rw [addL_at]
    exact (thL_t.mpr (fun hm => by have := (HV_lt h).2 d hm; omega)).symm
  · rw [addL_ne e]
theorem s_cell {S T : St} (h : Rel S T) : Agr f_X8_cell f_X9_cell S T := by
  obtain ⟨N, n, m, ou, c, lib, L, ln, tp, fl, cv, ho, hb, hc, hbm, hcm⟩ := h
  have len := ho.len
  obtain ⟨hw, hv, hl, hln⟩ := id ho
  obtain ⟨hn, hm, hN, hou⟩ := id hw
  have c20 := hl.1
  by_cases e : c = 20
  · have a := X_cell_full (S := S) (by rw [hb.2.2.1.1, e])
    have b := M_cell_full (T := T) (by rw [hbm.2.2.1.1, e])
    exact ⟨_, _, _, a, b, Rel_same ho hb hc hbm hcm⟩
  · obtain ⟨x1, x2⟩ := X_cell (show c < 20 by omega) hln hb.2.2.1 hb.2.2.2.1 hb.2.1 (by omega)
    obtain ⟨m1, m2⟩ := M_cell (show c < 20 by omega) hln hbm.2.2.1 hl.sz hbm.2.2.2.1 hbm.2.1 (by omega)
    by_cases hf : (rdc tp ln).1 = 0
    · obtain ⟨S', a1, a2, a3, a4, a5, a6, a7⟩ := x2 hf
      obtain ⟨T', b1, b2, b3, b4, b5, b6, b7, b8⟩ := m2 hf
      rw [thL_new hv] at a2 b2
      have hl' : WfL (c + 1) (addL lib c (rdCel tp ln)) := ⟨by omega, fun d hd => by
        by_cases z : d = c
        · subst z; rw [addL_at]; exact rdc_ok hf
        · rw [addL_ne z]; exact hl.2 d (by omega)⟩
      refine ⟨_, _, _, a1, b1, N, n, m, ou, c + 1, addL lib c (rdCel tp ln), 2 :: L, 0, fun _ => 0, 0, none, ⟨hw, ⟨c, rfl, hv⟩, hl', by omega⟩, ⟨hb.1.keep (a7.keep (by simp [rowsN])), a5, a2, ⟨a3, fun j hj => absurd hj (by omega)⟩, a4⟩, CC_none a6, ⟨hbm.1.keep (b7.keep (by decide)) (fun j hj => ?_), b5, b2, ⟨b3, fun j hj => absurd hj (by omega)⟩, b4⟩, CM_none b6⟩
      have : j = 0 ∨ j = 5 ∨ j = 11 := by simpa using hj
      exact b8 j (by omega) (by omega) (by omega) (by omega) (by omega) (by omega) (by omega) (by omega)
    · obtain ⟨S', a1, a2, a3, a4, a5⟩ := x1 hf
      obtain ⟨T', b1, b2, b3, b4, b5, b6, b7, b8⟩ := m1 hf
      refine ⟨_, _, _, a1, b1, N, n, m, ou, c, lib, L, 0, fun _ => 0, nI (rdc tp ln).1, cv, ⟨hw, hv, hl, by omega⟩, ⟨hb.1.keep (a5.keep (by simp [rowsN])), hb.2.1.keep (a5.keep (by simp)), a2, ⟨a3, fun j hj => absurd hj (by omega)⟩, a4⟩, CvC.same hc (a5.keep (by simp)), ⟨hbm.1.keep (b7.keep (by decide)) (fun j hj => ?_), b5, b2, ⟨b3, fun j hj => absurd hj (by omega)⟩, b4⟩, CvM.fr hcm (b7.keep (by decide)) (fun j hj => ?_)⟩
      · have : j = 0 ∨ j = 5 ∨ j = 11 := by simpa using hj
        exact b8 j (by omega) (by omega) (by omega) (by omega) (by omega)
      · have : j = 10 ∨ j = 40 ∨ j = 46 ∨ j = 50 := by simpa using hj
        exact b8 j (by omega) (by omega) (by omega) (by omega) (by omega)
theorem s_fault {S T : St} (h : Rel S T) : Agr f_X8_fault f_X9_fault S T := by
  obtain ⟨N, n, m, ou, c, lib, L, ln, tp, fl, cv, ho, hb, hc, hbm, hcm⟩ := id h
  refine ⟨fl, S, T, ?_, ?_, h⟩
  · unfold f_X8_fault; rw [hb.2.2.2.2]
  · unfold f_X9_fault; rw [hbm.2.2.2.2]
theorem s_drop {S T : St} (h : Rel S T) (x : Int32) : Agr (f_X8_drop x) (f_X9_drop x) S T := by
  obtain ⟨N, n, m, ou, c, lib, L, ln, tp, fl, cv, ho, hb, hc, hbm, hcm⟩ := h
  obtain ⟨hw, hv, hl, hln⟩ := id ho
  obtain ⟨hn, hm, hN, hou⟩ := id hw
  have c20 := hl.1
  cases hq : (inR x c && thL L x.toNatClampNeg) with
  | false => exact ⟨_, _, _, X_drop_no hl.1 hb.2.2.1 x hq, M_drop_no hl.1 hbm.2.2.1 x hq, Rel_same ho hb hc hbm hcm⟩
  | true =>
    obtain ⟨d, hd, rfl⟩ := inR_t (Bool.and_eq_true_iff.mp hq).1 (by omega)
    have hth : thL L d = true := by
      have := (Bool.and_eq_true_iff.mp hq).2
      rw [nI_clamp (by omega)] at this
      exact this
    have hv' : HV ou ((d + 3) :: L) n m c := ⟨hd, thL_t.mp hth, hv⟩
    have len := HV_88 hv'
    simp only [List.length_cons] at len
    obtain ⟨S', a1, a2, a3, a4, a5⟩ := X_drop hl.1 hd hb.2.2.1 hth hb.2.1 (by omega)
    obtain ⟨T', b1, b2, b3, b4, b5, b6⟩ := M_drop hl.1 hd hbm.2.2.1 hth hbm.2.1 (by omega)
    refine ⟨_, _, _, a1, b1, N, n, m, ou, c, lib, (d + 3) :: L, ln, tp, fl, none, ⟨hw, hv', hl, hln⟩, ⟨hb.1.keep (a5.keep (by simp [rowsN])), a3, a2, ⟨by rw [a5 3 0 (by simp)]; exact hb.2.2.2.1.1, by rw [a5 23 0 (by simp)]; exact hb.2.2.2.1.2⟩, by rw [a5 3 0 (by simp)]; exact hb.2.2.2.2⟩, CC_none a4, ⟨hbm.1.keep (b5.keep (by decide)) (fun j hj => ?_), b3, b2, ⟨by rw [b6 20 (by decide) (by decide)]; exact hbm.2.2.2.1.1, by rw [b5 15 0 (by decide)]; exact hbm.2.2.2.1.2⟩, by rw [b6 21 (by decide) (by decide)]; exact hbm.2.2.2.2⟩, CM_none b4⟩
    have : j = 0 ∨ j = 5 ∨ j = 11 := by simpa using hj
    exact b6 j (by omega) (by omega)
theorem WfN_pop {N : Nd} {n m : Nat} {ou : Nat → Nat} {n' m' : Nat} (hw : WfN N n m ou) (hn : n' ≤ n) (hm : m' ≤ m) (ho : ∀ o, o < m' → ou o < n') : WfN N n' m' ou := ⟨by have := hw.1; omega, by have := hw.2.1; omega, fun k hk => hw.2.2.1 k (by omega), ho⟩
theorem s_undo {S T : St} (h : Rel S T) : Agr f_X8_undo f_X9_undo S T := by
  obtain ⟨N, n, m, ou, c, lib, L, ln, tp, fl, cv, ho, hb, hc, hbm, hcm⟩ := h
  have len := ho.len
  obtain ⟨hw, hv, hl, hln⟩ := id ho
  obtain ⟨hn, hm, hN, hou⟩ := id hw
  have c20 := hl.1
  match L, hv, len, ho, hb, hc, hbm, hcm with
  | [], hv, _, ho, hb, hc, hbm, hcm => exact ⟨_, _, _, X_undo_no hb.2.1, M_undo_no hbm.2.1, Rel_same ho hb hc hbm hcm⟩
  | 0 :: r, hv, len, ho, hb, hc, hbm, hcm =>
    obtain ⟨n', rfl, hv'⟩ := hv
    simp only [List.length_cons] at len
    have hw' : WfN N n' m ou := WfN_pop hw (by omega) (Nat.le_refl _) (HV_lt hv').1
    obtain ⟨S', a1, a2, a3, a4, a5⟩ := X_undo0 hw hw' hb.1 hb.2.1 (by omega)
    obtain ⟨T', b1, b2, b3, b4, b5, b6⟩ := M_undo0 hw' hn hbm.1 hbm.2.1 (by omega)
    exact ⟨_, _, _, a1, b1, Rel_net ho hb hbm ⟨hw', hv', hl, hln⟩ (thL_3 (by decide) r).symm a2 a3 a4 a5 b2 b3 b4 (b5.mono (by decide)) ⟨b6 20 (by decide) (by decide) (by decide) (by decide), b6 21 (by decide) (by decide) (by decide) (by decide), b6 22 (by decide) (by decide) (by decide) (by decide)⟩⟩
  | 1 :: r, hv, len, ho, hb, hc, hbm, hcm =>
    obtain ⟨m', rfl, ho', hv'⟩ := hv
    simp only [List.length_cons] at len
    have hw' : WfN N n m' ou := WfN_pop hw (Nat.le_refl _) (by omega) (fun o q => hou o (by omega))
    obtain ⟨S', a1, a2, a3, a4, a5⟩ := X_undo1 hw' hm hb.1 hb.2.1 (by omega)
    obtain ⟨T', b1, b2, b3, b4, b5, b6⟩ := M_undo1 hw' hbm.1 hbm.2.1 (by omega)
    exact ⟨_, _, _, a1, b1, Rel_net ho hb hbm ⟨hw', hv', hl, hln⟩ (thL_3 (by decide) r).symm a2 a3 a4 a5 b2 b3 b4 (b5.mono (by decide)) ⟨b6 20 (by decide) (by decide) (by decide) (by decide), b6 21 (by decide) (by decide) (by decide) (by decide), b6 22 (by decide) (by decide) (by decide) (by decide)⟩⟩
  | 2 :: r, hv, len, ho, hb, hc, hbm, hcm =>
    obtain ⟨c', rfl, hv'⟩ := hv
    simp only [List.length_cons] at len
    have hl' : WfL c' lib := ⟨by omega, fun d hd => hl.2 d (by omega)⟩
    obtain ⟨S', a1, a2, a3, a4, a5⟩ := X_undo2 hl.1 hb.2.2.1 hb.2.1 (by omega)
    obtain ⟨T', b1, b2, b3, b4, b5, b6, b7⟩ := M_undo2 hw hbm.1 hbm.2.2.1 hl.1 hbm.2.1 (by omega)
    refine ⟨_, _, _, a1, b1, N, n, m, ou, c', lib, r, ln, tp, fl, none, ⟨hw, hv', hl', hln⟩, ⟨hb.1.keep (a5.keep (by simp [rowsN])), a3, a2, ⟨by rw [a5 3 0 (by simp)]; exact hb.2.2.2.1.1, by rw [a5 23 0 (by simp)]; exact hb.2.2.2.1.2⟩, by rw [a5 3 0 (by simp)]; exact hb.2.2.2.2⟩, CC_none a4, ⟨b2, b4, b3, ⟨by rw [b7 20 (by decide) (by decide) (by decide) (by decide)]; exact hbm.2.2.2.1.1, by rw [b6 15 0 (by decide)]; exact hbm.2.2.2.1.2⟩, by rw [b7 21 (by decide) (by decide) (by decide) (by decide)]; exact hbm.2.2.2.2⟩, CM_none b5⟩
  | (d + 3) :: r, hv, len, ho, hb, hc, hbm, hcm =>
    obtain ⟨hd, hnr, hv'⟩ := hv
    simp only [List.length_cons] at len
    obtain ⟨S', a1, a2, a3, a4, a5⟩ := X_undo3 hl.1 hd hnr hb.2.2.1 hb.2.1 (by omega)
    obtain ⟨T', b1, b2, b3, b4, b5, b6, b7⟩ := M_undo3 hw hbm.1 hbm.2.2.1 hl.1 hd hnr hbm.2.1 (by omega)
    refine ⟨_, _, _, a1, b1, N, n, m, ou, c, lib, r, ln, tp, fl, none, ⟨hw, hv', hl, hln⟩, ⟨hb.1.keep (a5.keep (by simp [rowsN])), a3, a2, ⟨by rw [a5 3 0 (by simp)]; exact hb.2.2.2.1.1, by rw [a5 23 0 (by simp)]; exact hb.2.2.2.1.2⟩, by rw [a5 3 0 (by simp)]; exact hb.2.2.2.2⟩, CC_none a4, ⟨b2, b4, b3, ⟨by rw [b7 20 (by decide) (by decide) (by decide)]; exact hbm.2.2.2.1.1, by rw [b6 15 0 (by decide)]; exact hbm.2.2.2.1.2⟩, by rw [b7 21 (by decide) (by decide) (by decide)]; exact hbm.2.2.2.2⟩, CM_none b5⟩
theorem s_vertexOf {S T : St} (h : Rel S T) (x : Int32) : Agr (f_X8_vertexOf x) (f_X9_vertexOf x) S T := by
  obtain ⟨N, n, m, ou, c, lib, L, ln, tp, fl, cv, ho, hb, hc, hbm, hcm⟩ := id h
  exact ⟨_, _, _, X_vertexOf ho.1 hb.1 x, M_vertexOf ho.1 hbm.1 x, h⟩
theorem s_vertex {S T : St} (h : Rel S T) (x w : Int32) : Agr (f_X8_vertex x w) (f_X9_vertex x w) S T := by
  obtain ⟨N, n, m, ou, c, lib, L, ln, tp, fl, cv, ho, hb, hc, hbm, hcm⟩ := id h
  have e := hb.ev ho
  have em := hbm.ev ho
  exact ⟨_, _, _, c_vertex e.1 e.2.2.1 e.2.2.2.1 x w, m_vertex em.1 em.2.2.1 em.2.2.2.1 x w, h⟩
theorem s_matches {S T : St} (h : Rel S T) (x y : Int32) : Agr (f_X8_matches x y) (f_X9_matches x y) S T := by
  obtain ⟨N, n, m, ou, c, lib, L, ln, tp, fl, cv, ho, hb, hc, hbm, hcm⟩ := id h
  obtain ⟨S', a1, a2⟩ := X_matches (hb.ev ho) x y
  obtain ⟨T', b1, b2⟩ := M_matches (hbm.ev ho) x y
  exact ⟨_, _, _, a1, b1, Rel_look ho hb hc hbm hcm a2 b2 (by decide) (by decide)⟩
theorem s_match {S T : St} (h : Rel S T) (x y k p : Int32) : Agr (f_X8_match x y k p) (f_X9_match x y k p) S T := by
  obtain ⟨N, n, m, ou, c, lib, L, ln, tp, fl, cv, ho, hb, hc, hbm, hcm⟩ := id h
  obtain ⟨S', a1, a2⟩ := X_match (hb.ev ho) x y k p
  obtain ⟨T', b1, b2⟩ := M_match (hbm.ev ho) x y k p
  exact ⟨_, _, _, a1, b1, Rel_look ho hb hc hbm hcm a2 b2 (by decide) (by decide)⟩
theorem s_cover {S T : St} (h : Rel S T) (x : Int32) : Agr (f_X8_cover x) (f_X9_cover x) S T := by
  obtain ⟨N, n, m, ou, c, lib, L, ln, tp, fl, cv, ho, hb, hc, hbm, hcm⟩ := id h
  obtain ⟨x1, x2⟩ := X_cover (hb.ev ho) x
  obtain ⟨m1, m2⟩ := M_cover (hbm.ev ho) hcm hc.ok x
  cases hx : isHow x with
  | false => exact ⟨_, _, _, x1 hx, m1 hx, h⟩
  | true =>
    obtain ⟨x3, x4⟩ := x2 hx
    obtain ⟨m3, m4⟩ := m2 hx
    cases hq : gfind (Qc (bld N n).1 m (vos N n ou) c lib (thL L) x).isBad (bld N n).1.1 with
    | some w =>
      obtain ⟨S', a1, a2, a3⟩ := x3 w hq
      obtain ⟨T', b1, b2, b3⟩ := m3 w hq
      exact ⟨_, _, _, a1, b1, N, n, m, ou, c, lib, L, ln, tp, fl, none, ho, hb.same a2 (by decide), a3, hbm.fr ho b2, b3⟩
    | none =>
      obtain ⟨S', a1, a2, a3⟩ := x4 hq
      obtain ⟨T', b1, b2, b3⟩ := m4 hq
      exact ⟨_, _, _, a1, b1, N, n, m, ou, c, lib, L, ln, tp, fl, some x, ho, hb.same a2 (by decide), a3, hbm.fr ho b2, b3⟩
theorem s_best {S T : St} (h : Rel S T) (x w : Int32) : Agr (f_X8_best x w) (f_X9_best_ x w) S T := by
  obtain ⟨N, n, m, ou, c, lib, L, ln, tp, fl, cv, ho, hb, hc, hbm, hcm⟩ := id h
  exact ⟨_, _, _, X_best (hb.ev ho) hc x w, M_best_ (hbm.ev ho) hcm x w, h⟩
theorem s_inst {S T : St} (h : Rel S T) (x w : Int32) : Agr (f_X8_instance x w) (f_X9_instance x w) S T := by
  obtain ⟨N, n, m, ou, c, lib, L, ln, tp, fl, cv, ho, hb, hc, hbm, hcm⟩ := id h
  exact ⟨_, _, _, X_instance (hb.ev ho) hc x w, M_instance (hbm.ev ho) hcm hc.ok x w, h⟩
theorem s_area {S T : St} (h : Rel S T) : Agr f_X8_area f_X9_area S T := by
  obtain ⟨N, n, m, ou, c, lib, L, ln, tp, fl, cv, ho, hb, hc, hbm, hcm⟩ := id h
  exact ⟨_, _, _, X_area hc, M_area hcm, h⟩
theorem s_arrival {S T : St} (h : Rel S T) (x : Int32) : Agr (f_X8_arrival x) (f_X9_arrival x) S T := by
  obtain ⟨N, n, m, ou, c, lib, L, ln, tp, fl, cv, ho, hb, hc, hbm, hcm⟩ := id h
  exact ⟨_, _, _, X_arrival (hb.ov ho) hc x, M_arrival (hbm.ov ho) hcm x, h⟩
theorem s_worth {S T : St} (h : Rel S T) (x : Int32) : Agr (f_X8_worth x) (f_X9_worth x) S T := by
  obtain ⟨N, n, m, ou, c, lib, L, ln, tp, fl, cv, ho, hb, hc, hbm, hcm⟩ := id h
  obtain ⟨S', a1, a2, a3⟩ := X_worth (hb.ev ho) hc x
  obtain ⟨T', b1, b2, b3⟩ := M_worth (hbm.ev ho) hcm hc.ok x
  exact ⟨_, _, _, a1, b1, N, n, m, ou, c, lib, L, ln, tp, fl, cv, ho, hb.same a2 (by decide), a3, hbm.fr ho b2, b3⟩
theorem s_run {S T : St} (h : Rel S T) (b : Int64) : Agr (f_X8_run b) (f_X9_run b) S T := by
  obtain ⟨N, n, m, ou, c, lib, L, ln, tp, fl, cv, ho, hb, hc, hbm, hcm⟩ := id h
  obtain ⟨S', a1, a2⟩ := X_run ho.1 hb.1 b
  obtain ⟨T', b1, b2⟩ := M_run ho.1 hbm.1 b
  exact ⟨_, _, _, a1, b1, Rel_look ho hb hc hbm hcm a2 b2 (by decide) (by decide)⟩
theorem s_about {S T : St} (h : Rel S T) (x w y : Int32) : Agr (f_X8_about x w y) (f_X9_about x w y) S T := by
  obtain ⟨N, n, m, ou, c, lib, L, ln, tp, fl, cv, ho, hb, hc, hbm, hcm⟩ := id h
  obtain ⟨T', b1, b2⟩ := M_about ho.2.2.1 hbm.2.2.1 x w y
  exact ⟨_, _, _, X_about ho.2.2.1 hb.2.2.1 x w y, b1, Rel_look (exc := []) ho hb hc hbm hcm Same.rf b2 (by simp) (by decide)⟩
theorem s_count {S T : St} (h : Rel S T) (w : Int32) : Agr (f_X8_count w) (f_X9_count w) S T := by
  obtain ⟨N, n, m, ou, c, lib, L, ln, tp, fl, cv, ho, hb, hc, hbm, hcm⟩ := id h
  exact ⟨_, _, _, X_count (tp := tp) hb.1 ho.2.2.1 hb.2.2.1 hb.2.2.2.1.1 hc w, M_count ho.1 hbm.1 ho.2.2.1 hbm.2.2.1 hbm.2.2.2.1.1 hcm w, h⟩
theorem s_digest {S T : St} (h : Rel S T) : Agr f_X8_digest f_X9_digest S T := by
  obtain ⟨N, n, m, ou, c, lib, L, ln, tp, fl, cv, ho, hb, hc, hbm, hcm⟩ := id h
  exact ⟨_, _, _, X_digest (hb.ev ho) (hb.ov ho), M_digest (hbm.ev ho) (hbm.ov ho), h⟩
/-- a net of n nodes has at most n INPUT vertices -/
def cin (g : Gr) : Nat := civ g g.1
theorem cin_add {g : Gr} {t : Nat × Nat × Nat} : cin (gadd g t) = cin g + (if t.1 = 0 then 1 else 0) := by
  unfold cin civ
  show ctB _ (g.1 + 1) = _
  rw [ctB]
  have e : ctB (fun u => ((gadd g t).2 u).1 == 0) g.1 = ctB (fun u => (g.2 u).1 == 0) g.1 := ctB_cg (fun k hk => by simp [gadd, show k ≠ g.1 by omega])
  rw [e]
  congr 1
  simp [gadd]
theorem cin_get {g : Gr} {p : Nat → Bool} {t : Nat × Nat × Nat} (ht : t.1 ≠ 0) : cin (gget g p t).1 = cin g := by
  unfold gget
  split
  · rfl
  · show cin (gadd g t) = cin g
    rw [cin_add, if_neg ht]; rfl
theorem cin_nd {g : Gr} {a b : Nat} : cin (gnd g a b).1 = cin g := cin_get (by simp)
theorem cin_iv {g : Gr} {a : Nat} : cin (giv g a).1 = cin g := by
  unfold giv
  split
  · rfl
  · exact cin_get (by simp)
theorem cin_or {g : Gr} {a b : Nat} : cin (gor g a b).1 = cin g := by unfold gor; rw [cin_nd, cin_iv, cin_iv]
theorem cin_gate (k : Nat) (g : Gr) (a b c : Nat) : cin (ggate k g a b c).1 = cin g := by
  match k with
  | 0 => exact cin_iv
  | 1 => show cin (giv (gnd g a b).1 (gnd g a b).2).1 = _; rw [cin_iv, cin_nd]
  | 2 => exact cin_or
  | 3 => show cin (gxo g a b).1 = _; unfold gxo; rw [cin_nd, cin_nd, cin_nd, cin_nd]
  | 4 => exact cin_nd
  | 5 => show cin (giv (gor g a b).1 (gor g a b).2).1 = _; rw [cin_iv, cin_or]
  | k + 6 => show cin (gpi g a b c).1 = _; unfold gpi; rw [cin_nd, cin_nd, cin_iv, cin_nd]
theorem cin_bld (N : Nd) : ∀ k, cin (bld N k).1 ≤ k
  | 0 => Nat.le_refl 0
  | k + 1 => by
    have ih := cin_bld N k
    show cin (nstep (bld N k).1 (bld N k).2 (N k)).1 ≤ k + 1
    unfold nstep
    split
    · show cin (gadd (bld N k).1 (0, 0, 0)) ≤ k + 1
      rw [cin_add, if_pos rfl]; omega
    · rw [cin_gate]; omega
theorem s_mapped {S T : St} (h : Rel S T) (b : Int64) : Agr (f_X8_mapped b) (f_X9_mapped b) S T := by
  obtain ⟨N, n, m, ou, c, lib, L, ln, tp, fl, cv, ho, hb, hc, hbm, hcm⟩ := id h
  have hci : ∀ v, v ≤ (bld N n).1.1 → civ (bld N n).1 v < 64 := fun v hv => by
    have h1 : civ (bld N n).1 v ≤ civ (bld N n).1 (bld N n).1.1 := ctB_mono hv
    have h2 : civ (bld N n).1 (bld N n).1.1 ≤ n := cin_bld N n
    have h3 := ho.1.1
    omega
  obtain ⟨S', a1, a2⟩ := X_mapped (hb.ev ho) (hb.ov ho) hci hc b
  obtain ⟨T', b1, b2⟩ := M_mapped (hbm.ev ho) (hbm.ov ho) hcm hc.ok b
  exact ⟨_, _, _, a1, b1, Rel_look ho hb hc hbm hcm a2 b2 (by decide) (by decide)⟩
