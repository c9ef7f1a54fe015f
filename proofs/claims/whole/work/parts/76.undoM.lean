/-! undo() of the reference -/
def exU0 : List (Nat × Nat) := [(0, 0), (8, 0), (9, 0), (10, 0), (11, 0), (12, 0), (13, 0), (14, 0)]
def exU : List (Nat × Nat) := [(0, 0), (8, 0), (9, 0), (10, 0), (11, 0), (12, 0), (13, 0), (14, 0), (16, 0)]
theorem PhM_pop {x : Nat} {r : List Nat} {T : St} (h : PhM (x :: r) T) : PhM r (put T 0 0 7 (nI r.length)) := ⟨put_self _ _ _ _ _, by rw [put_o rfl, put_o rfl]; exact h.2.2.2⟩
/-- behind the step: no cover, and make() -/
theorem m_110 {N : Nd} {n m : Nat} {ou : Nat → Nat} {r : List Nat} {T : St} (hw : WfN N n m ou) (hM : NM N n T) (h5 : T 0 0 5 = nI m) (hou : ∀ o, o < m → T 5 0 o = nI (ou o)) (hL : PhM r T) : ∃ T', j_X9_undo_110 T = some (nI r.length, T') ∧ PnM N n m ou T' ∧ PhM r T' ∧ T' 0 0 10 = 0 ∧ Same [(0, 0), (8, 0), (9, 0), (10, 0), (11, 0), (12, 0), (13, 0), (14, 0)] T T' ∧ ∀ j, j ≠ 10 → j ≠ 11 → T' 0 0 j = T 0 0 j := by
  unfold j_X9_undo_110
  rw [lt_]
  have s1 : Same [(0, 0)] T (put T 0 0 10 0) := Same.rf.put (by decide)
  obtain ⟨T2, a1, a2, a3⟩ := n_make (T := put T 0 0 10 0) hw ⟨by rw [put_j (by decide)]; exact hM.1, by rw [put_o rfl, put_o rfl, put_o rfl, put_o rfl]; exact hM.2⟩ (by rw [put_j (by decide)]; exact h5) (by rw [put_o rfl]; exact hou)
  have L2 : PhM r T2 := (hL.keep (s1.keep (by decide)) (fun j hj => by rw [in1 hj, put_j (by decide)])).keep (a3.1.keep (by decide)) (fun j hj => by rw [in1 hj]; exact a3.2 7 (by decide))
  rw [bv_e a1, L2.1]
  exact ⟨T2, rfl, a2, L2, by rw [a3.2 10 (by decide), put_self], (s1.mono (by decide)).tr (a3.1.mono (by decide)), fun j x y => by rw [a3.2 j y, put_j x]⟩
theorem NM_pop {N : Nd} {n : Nat} {T T2 : St} (h : NM N (n + 1) T) (e0 : T2 0 0 0 = nI n) (hs : ∀ k, k = 1 ∨ k = 2 ∨ k = 3 ∨ k = 4 → T2 k 0 = T k 0) : NM N n T2 := by
  refine ⟨e0, fun k hk => ?_⟩
  rw [hs 1 (by simp), hs 2 (by simp), hs 3 (by simp), hs 4 (by simp)]
  exact h.2 k (by omega)
theorem M_pop {x : Nat} {r : List Nat} {T : St} (hL : PhM (x :: r) T) (hl : r.length < 88) : ¬ T 0 0 7 = 0 ∧ T 0 0 7 - 1 = nI r.length ∧ ix (nI r.length) 4200 = true ∧ (nI r.length).toNatClampNeg = r.length ∧ put T 0 0 7 (nI r.length) 6 0 r.length = (if x < 3 then nI x else 3) ∧ (3 ≤ x → put T 0 0 7 (nI r.length) 7 0 r.length = nI (x - 3)) := by
  refine ⟨?_, ?_, ix_nI (by omega) (by decide), nI_clamp (by omega), by rw [put_o rfl]; exact hL.2.1, fun h => by rw [put_o rfl]; exact hL.2.2.1 h⟩
  · rw [hL.1]
    exact nI_ne0 (by simp) (by simp; omega)
  · rw [hL.1]; exact nI_pred _
theorem M_undo0 {N : Nd} {n m : Nat} {ou : Nat → Nat} {r : List Nat} {T : St} (hw' : WfN N n m ou) (hn1 : n + 1 ≤ 40) (hP : PnM N (n + 1) m ou T) (hL : PhM (0 :: r) T) (hl : r.length < 88) : ∃ T', f_X9_undo T = some (nI r.length, T') ∧ PnM N n m ou T' ∧ PhM r T' ∧ T' 0 0 10 = 0 ∧ Same exU0 T T' ∧ ∀ j, j ≠ 0 → j ≠ 7 → j ≠ 10 → j ≠ 11 → T' 0 0 j = T 0 0 j := by
  obtain ⟨p1, p2, p3, p4, p5, -⟩ := M_pop hL hl
  have hP0 := hP
  obtain ⟨a0, a2, a3, a4, a5, a6⟩ := hP0
  have e0 : put T 0 0 7 (nI r.length) 0 0 0 - 1 = nI n := by rw [put_j (by decide), a0.1]; exact nI_pred _
  obtain ⟨T', b1, b2, b3, b4, b5, b6⟩ := m_110 (T := put (put T 0 0 7 (nI r.length)) 0 0 0 (nI n)) hw' (NM_pop a0 (put_self _ _ _ _ _) (fun k hk => by rcases hk with rfl | rfl | rfl | rfl <;> rw [put_o rfl, put_o rfl])) (by rw [put_j (by decide), put_j (by decide)]; exact a2) (by rw [put_o rfl, put_o rfl]; exact a3) ((PhM_pop hL).keep ((Same.rf.put (ex := [(0, 0)]) (by decide)).keep (by decide)) (fun j hj => by rw [in1 hj, put_j (by decide)]))
  refine ⟨T', ?_, b2, b3, b4, ((Same.rf.put (by decide)).put (by decide)).tr (b5.mono (by decide)), fun j x y z w => by rw [b6 j z w, put_j x, put_j y]⟩
  unfold f_X9_undo
  rw [if_neg p1, p2, lt_, put_self, gd_t p3, lt_, p4, p5, if_pos (show (0 : Nat) < 3 by decide), if_pos (show nI 0 = 0 from rfl), e0, lt_]
  exact b1
theorem M_undo1 {N : Nd} {n m : Nat} {ou : Nat → Nat} {r : List Nat} {T : St} (hw' : WfN N n m ou) (hP : PnM N n (m + 1) ou T) (hL : PhM (1 :: r) T) (hl : r.length < 88) : ∃ T', f_X9_undo T = some (nI r.length, T') ∧ PnM N n m ou T' ∧ PhM r T' ∧ T' 0 0 10 = 0 ∧ Same exU0 T T' ∧ ∀ j, j ≠ 5 → j ≠ 7 → j ≠ 10 → j ≠ 11 → T' 0 0 j = T 0 0 j := by
  obtain ⟨p1, p2, p3, p4, p5, -⟩ := M_pop hL hl
  have hP0 := hP
  obtain ⟨a0, a2, a3, a4, a5, a6⟩ := hP0
  have e0 : put T 0 0 7 (nI r.length) 0 0 5 - 1 = nI m := by rw [put_j (by decide), a2]; exact nI_pred _
  obtain ⟨T', b1, b2, b3, b4, b5, b6⟩ := m_110 (T := put (put T 0 0 7 (nI r.length)) 0 0 5 (nI m)) hw' ⟨by rw [put_j (by decide), put_j (by decide)]; exact a0.1, by rw [put_o rfl, put_o rfl, put_o rfl, put_o rfl, put_o rfl, put_o rfl, put_o rfl, put_o rfl]; exact a0.2⟩ (put_self _ _ _ _ _) (fun o ho => by rw [put_o rfl, put_o rfl]; exact a3 o (by omega)) ((PhM_pop hL).keep ((Same.rf.put (ex := [(0, 0)]) (by decide)).keep (by decide)) (fun j hj => by rw [in1 hj, put_j (by decide)]))
  refine ⟨T', ?_, b2, b3, b4, ((Same.rf.put (by decide)).put (by decide)).tr (b5.mono (by decide)), fun j x y z w => by rw [b6 j z w, put_j x, put_j y]⟩
  unfold f_X9_undo
  rw [if_neg p1, p2, lt_, put_self, gd_t p3, lt_, p4, p5, if_pos (show (1 : Nat) < 3 by decide), if_neg (show ¬ nI 1 = 0 from by decide), if_pos (show nI 1 = 1 from rfl), e0, lt_]
  exact b1
theorem M_undo2 {N : Nd} {n m c : Nat} {ou : Nat → Nat} {lib : Nat → Cel} {r : List Nat} {T : St} (hw : WfN N n m ou) (hP : PnM N n m ou T) (hQ : PlM (c + 1) lib (thL (2 :: r)) T) (hc : c + 1 ≤ 20) (hL : PhM (2 :: r) T) (hl : r.length < 88) : ∃ T', f_X9_undo T = some (nI r.length, T') ∧ PnM N n m ou T' ∧ PlM c lib (thL r) T' ∧ PhM r T' ∧ T' 0 0 10 = 0 ∧ Same exU T T' ∧ ∀ j, j ≠ 22 → j ≠ 7 → j ≠ 10 → j ≠ 11 → T' 0 0 j = T 0 0 j := by
  obtain ⟨p1, p2, p3, p4, p5, -⟩ := M_pop hL hl
  have hP0 := hP
  obtain ⟨a0, a2, a3, a4, a5, a6⟩ := hP0
  have e0 : put T 0 0 7 (nI r.length) 0 0 22 - 1 = nI c := by rw [put_j (by decide), hQ.1]; exact nI_pred _
  obtain ⟨T', b1, b2, b3, b4, b5, b6⟩ := m_110 (T := put (put T 0 0 7 (nI r.length)) 0 0 22 (nI c)) hw ⟨by rw [put_j (by decide), put_j (by decide)]; exact a0.1, by rw [put_o rfl, put_o rfl, put_o rfl, put_o rfl, put_o rfl, put_o rfl, put_o rfl, put_o rfl]; exact a0.2⟩ (by rw [put_j (by decide), put_j (by decide)]; exact a2) (by rw [put_o rfl, put_o rfl]; exact a3) ((PhM_pop hL).keep ((Same.rf.put (ex := [(0, 0)]) (by decide)).keep (by decide)) (fun j hj => by rw [in1 hj, put_j (by decide)]))
  have s : Same exU T T' := ((Same.rf.put (by decide)).put (by decide)).tr (b5.mono (by decide))
  have r16 : T' 16 0 = T 16 0 := by rw [b5 16 0 (by decide), put_o rfl, put_o rfl]
  refine ⟨T', ?_, b2, ⟨by rw [b6 22 (by decide) (by decide), put_self], fun d hd => ?_⟩, b3, b4, s, fun j x y z w => by rw [b6 j z w, put_j x, put_j y]⟩
  · unfold f_X9_undo
    rw [if_neg p1, p2, lt_, put_self, gd_t p3, lt_, p4, p5, if_pos (show (2 : Nat) < 3 by decide), if_neg (show ¬ nI 2 = 0 from by decide), if_neg (show ¬ nI 2 = 1 from by decide), if_pos (show nI 2 = 2 from rfl), e0, lt_]
    exact b1
  · obtain ⟨c1, c2, c3, c4, c5⟩ := hQ.2 d (by omega)
    rw [thL_cell] at c5
    exact ⟨c1.cg (s.keep (by decide)), by rw [s 17 0 (by decide)]; exact c2, by rw [s 18 0 (by decide)]; exact c3, by rw [s 19 0 (by decide)]; exact c4, by rw [r16]; exact c5⟩
theorem M_undo3 {N : Nd} {n m c d : Nat} {ou : Nat → Nat} {lib : Nat → Cel} {r : List Nat} {T : St} (hw : WfN N n m ou) (hP : PnM N n m ou T) (hQ : PlM c lib (thL ((d + 3) :: r)) T) (hc : c ≤ 20) (hd : d < c) (hnr : (d + 3) ∉ r) (hL : PhM ((d + 3) :: r) T) (hl : r.length < 88) : ∃ T', f_X9_undo T = some (nI r.length, T') ∧ PnM N n m ou T' ∧ PlM c lib (thL r) T' ∧ PhM r T' ∧ T' 0 0 10 = 0 ∧ Same exU T T' ∧ ∀ j, j ≠ 7 → j ≠ 10 → j ≠ 11 → T' 0 0 j = T 0 0 j := by
  obtain ⟨p1, p2, p3, p4, p5, p6⟩ := M_pop hL hl
  have hP0 := hP
  obtain ⟨a0, a2, a3, a4, a5, a6⟩ := hP0
  obtain ⟨T', b1, b2, b3, b4, b5, b6⟩ := m_110 (T := put (put T 0 0 7 (nI r.length)) 16 0 d 1) hw ⟨by rw [put_o rfl, put_j (by decide)]; exact a0.1, by rw [put_o rfl, put_o rfl, put_o rfl, put_o rfl, put_o rfl, put_o rfl, put_o rfl, put_o rfl]; exact a0.2⟩ (by rw [put_o rfl, put_j (by decide)]; exact a2) (by rw [put_o rfl, put_o rfl]; exact a3) ((PhM_pop hL).keep ((Same.rf.put (ex := [(16, 0)]) (by decide)).keep (by decide)) (fun j hj => by rw [put_o rfl]))
  have s : Same exU T T' := ((Same.rf.put (by decide)).put (by decide)).tr (b5.mono (by decide))
  refine ⟨T', ?_, b2, ⟨by rw [b6 22 (by decide) (by decide), put_o rfl, put_j (by decide)]; exact hQ.1, fun e he => ?_⟩, b3, b4, s, fun j x y z => by rw [b6 j y z, put_o rfl, put_j x]⟩
  · unfold f_X9_undo
    have p6 := p6 (by omega)
    rw [show d + 3 - 3 = d by omega] at p6
    rw [if_neg p1, p2, lt_, put_self, gd_t p3, lt_, p4, p5, if_neg (show ¬ d + 3 < 3 by omega), if_neg (show ¬ (3 : Int32) = 0 from by decide), if_neg (show ¬ (3 : Int32) = 1 from by decide), if_neg (show ¬ (3 : Int32) = 2 from by decide), gd_t p3, lt_, p6, gd_t (ix_nI (show d < 20 by omega) (by decide)), lt_, nI_clamp (show d < 2 ^ 31 by omega), nz_1]
    exact b1
  · obtain ⟨c1, c2, c3, c4, c5⟩ := hQ.2 e he
    refine ⟨c1.cg (s.keep (by decide)), by rw [s 17 0 (by decide)]; exact c2, by rw [s 18 0 (by decide)]; exact c3, by rw [s 19 0 (by decide)]; exact c4, ?_⟩
    rw [b5 16 0 (by decide), put_jj, put_o rfl]
    by_cases z : e = d
    · subst z; rw [if_pos rfl, thL_t.mpr hnr]; rfl
    · rw [if_neg z, c5, thL_drop, addL_ne z]
theorem M_undo_no {T : St} (h : PhM [] T) : f_X9_undo T = some (-2, T) := by
  unfold f_X9_undo
  rw [h.1, if_pos (show nI ([] : List Nat).length = 0 from rfl)]
