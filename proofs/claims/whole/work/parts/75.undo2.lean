/-! undo() -/
theorem c_takeLatest {x : Nat} {r : List Nat} {S : St} (h : PhC (x :: r) S) (hl : r.length < 88) : f_X2_takeLatest S = some (nI x, put S 7 0 1 (nI r.length)) := by
  unfold f_X2_takeLatest
  have e : S 7 0 1 - 1 = nI r.length := by rw [h.1]; exact nI_pred _
  rw [e, lt_, put_self, gd_t (ix_nI hl (by decide)), lt_, nI_clamp (show r.length < 2 ^ 31 by omega), put_o rfl, h.2.1]
theorem PhC_pop {x : Nat} {r : List Nat} {S : St} (h : PhC (x :: r) S) : PhC r (put S 7 0 1 (nI r.length)) := ⟨put_self _ _ _ _ _, by rw [put_o rfl]; exact h.2.2⟩
/-- a node less: before the marks -/
theorem Pn0_pop {N : Nd} {n m : Nat} {ou : Nat → Nat} {S S2 : St} (hN : wfN N (n + 1)) (hP : Pn0 N (n + 1) m ou S) (e8 : S2 2 0 8 = nI n) (e10 : S2 2 0 10 = S 2 0 10) (e9 : S2 2 0 9 = nI (ctB (isInp N) n)) (e6 : S2 1 0 6 = nI (bld N n).1.1) (hs : Same [(1, 0), (2, 0)] S S2) : Pn0 N n m ou S2 := by
  obtain ⟨a1, a2, a3, a4, a5, a6⟩ := hP
  obtain ⟨b1, b2⟩ := bld_pre (j := n) (k := n + 1) hN (by omega) (Nat.le_refl _)
  refine ⟨e8, by rw [e10]; exact a2, e9, fun k hk => ?_, by rw [hs 20 0 (by decide)]; exact a5, e6, fun v hv => ?_⟩
  · unfold rowC
    rw [hs 15 0 (by decide), hs 16 0 (by decide), hs 17 0 (by decide), hs 18 0 (by decide), hs 21 0 (by decide), hs 22 0 (by decide)]
    exact a4 k (by omega)
  · rw [hs 9 0 (by decide), hs 10 0 (by decide), hs 11 0 (by decide), ← b2 v hv]
    exact a6.2 v (by omega)
theorem X_undo0 {N : Nd} {n m : Nat} {ou : Nat → Nat} {r : List Nat} {S : St} (hw : WfN N (n + 1) m ou) (hw' : WfN N n m ou) (hP : PnC N (n + 1) m ou S) (hL : PhC (0 :: r) S) (hl : r.length < 88) : ∃ S', f_X8_undo S = some (nI r.length, S') ∧ PnC N n m ou S' ∧ PhC r S' ∧ S' 0 0 8 = 0 ∧ Same exN S S' := by
  have hP0 := hP.1
  obtain ⟨a1, a2, a3, a4, a5, a6⟩ := hP0
  have hn := hw'.1
  have hn1 := hw.1
  have h0 : ¬ nI 0 = 1 := by decide
  generalize hS1 : put S 7 0 1 (nI r.length) = S1
  have s1 : Same [(7, 0)] S S1 := by rw [← hS1]; exact Same.rf.put (by decide)
  -- removeNode
  obtain ⟨hk, -, e21, -⟩ := a4 n (by omega)
  have en : S1 2 0 8 - 1 = nI n := by rw [s1 2 0 (by decide), a1]; exact nI_pred _
  have hkl : (N n).1 ≤ 7 := (hw.2.2.1 n (by omega)).1
  have h7 : (nI (N n).1 = 7) = ((N n).1 = 7) := nI_inj (b := 7) (by omega) (by decide)
  have hct : ctB (isInp N) (n + 1) = ctB (isInp N) n + (if (N n).1 = 7 then 1 else 0) := by
    rw [ctB]
    unfold isInp
    by_cases z : (N n).1 = 7 <;> simp [z]
  generalize hS2 : (if (N n).1 = 7 then put (put S1 2 0 8 (nI n)) 2 0 9 (nI (ctB (isInp N) n)) else put S1 2 0 8 (nI n)) = S2
  have s2 : Same [(2, 0)] S1 S2 := by
    rw [← hS2]
    split
    · exact (Same.rf.put (by decide)).put (by decide)
    · exact Same.rf.put (by decide)
  have e28 : S2 2 0 8 = nI n := by
    rw [← hS2]
    split
    · rw [put_j (by decide), put_self]
    · rw [put_self]
  have e29 : S2 2 0 9 = nI (ctB (isInp N) n) := by
    rw [← hS2]
    split
    · rw [put_self]
    · rename_i z
      rw [put_j (by decide), s1 2 0 (by decide), a3, hct, if_neg z]; rfl
  have e2A : S2 2 0 10 = S 2 0 10 := by
    rw [← hS2]
    split
    · rw [put_j (by decide), put_j (by decide), s1 2 0 (by decide)]
    · rw [put_j (by decide), s1 2 0 (by decide)]
  have er : f_X5_removeNode S1 = some (nI (bld N n).1.1, S2) := by
    unfold f_X5_removeNode
    rw [en, lt_, put_self, gd_t (ix_nI (show n < 40 by omega) (by decide)), lt_, nI_clamp (show n < 2 ^ 31 by omega), put_o rfl, s1 15 0 (by decide), hk]
    have j34 : j_X5_removeNode_34 S2 = some (nI (bld N n).1.1, S2) := by
      unfold j_X5_removeNode_34
      rw [e28, gd_t (ix_nI (show n < 40 by omega) (by decide)), lt_, nI_clamp (show n < 2 ^ 31 by omega), s2 21 0 (by decide), s1 21 0 (by decide), e21]
    by_cases z : (N n).1 = 7
    · have c7 : nI (N n).1 = 7 := by rw [h7]; exact z
      rw [if_pos c7, put_j (show (9 : Nat) ≠ 8 by decide), s1 2 0 (by decide), a3, hct, if_pos z, nI_pred, lt_]
      rw [if_pos z] at hS2
      rw [hS2]
      exact j34
    · have c7 : ¬ nI (N n).1 = 7 := by rw [h7]; exact z
      rw [if_neg c7]
      rw [if_neg z] at hS2
      rw [hS2]
      exact j34
  have P3 : Pn0 N n m ou (put S2 1 0 6 (nI (bld N n).1.1)) := Pn0_pop hw.2.2.1 (PnC.keep hP (s1.keep (by decide))).1 (by rw [put_o rfl]; exact e28) (by rw [put_o rfl, e2A, s1 2 0 (by decide)]) (by rw [put_o rfl]; exact e29) (put_self _ _ _ _ _) ((s2.mono (by decide)).put (by decide))
  obtain ⟨S4, b1, b2, b3⟩ := n_mark hw' P3
  have et : f_X8_takeBack (nI 0) S1 = some S4 := by
    unfold f_X8_takeBack j_X8_takeBack_103
    rw [if_pos (show nI 0 = 0 from rfl), bi_e er, lt_, bv_e b1]
  have s04 : Same exN S S4 := (s1.mono (by decide)).tr ((s2.mono (by decide)).tr (((Same.rf (ex := exN)).put (by decide)).tr (b3.mono (by decide))))
  have L4 : PhC r S4 := by
    have : PhC r S1 := by rw [← hS1]; exact PhC_pop hL
    exact this.keep ((s2.mono (ex' := [(2, 0), (1, 0), (12, 0), (13, 0), (14, 0)]) (by decide)).tr (((Same.rf (ex := [(2, 0), (1, 0), (12, 0), (13, 0), (14, 0)])).put (by decide)).tr (b3.mono (by decide))) |>.keep (by decide))
  have kk : Keep rowsN S4 (put S4 0 0 8 0) := (Same.rf.put (ex := [(0, 0)]) (by decide)).keep (by decide)
  refine ⟨put S4 0 0 8 0, ?_, b2.keep kk, L4.keep ((Same.rf.put (ex := [(0, 0)]) (by decide)).keep (by decide)), put_self _ _ _ _ _, s04.put (by decide)⟩
  unfold f_X8_undo
  rw [hL.1, if_pos (show (0 : Int32) < nI (0 :: r).length from nI_lt (a := 0) (by simp) (by simp; omega)), bi_e (c_takeLatest hL hl), hS1, bv_e et, lt_, put_o rfl, L4.1]
theorem X_undo1 {N : Nd} {n m : Nat} {ou : Nat → Nat} {r : List Nat} {S : St} (hw' : WfN N n m ou) (hm1 : m + 1 ≤ 8) (hP : PnC N n (m + 1) ou S) (hL : PhC (1 :: r) S) (hl : r.length < 88) : ∃ S', f_X8_undo S = some (nI r.length, S') ∧ PnC N n m ou S' ∧ PhC r S' ∧ S' 0 0 8 = 0 ∧ Same exN S S' := by
  have hP0 := hP.1
  obtain ⟨a1, a2, a3, a4, a5, a6⟩ := hP0
  generalize hS1 : put S 7 0 1 (nI r.length) = S1
  have s1 : Same [(7, 0)] S S1 := by rw [← hS1]; exact Same.rf.put (by decide)
  have en : S1 2 0 10 - 1 = nI m := by rw [s1 2 0 (by decide), a2]; exact nI_pred _
  have P3 : Pn0 N n m ou (put S1 2 0 10 (nI m)) := by
    have sx : Same [(7, 0), (2, 0)] S (put S1 2 0 10 (nI m)) := (s1.mono (by decide)).put (by decide)
    refine ⟨by rw [put_j (by decide), s1 2 0 (by decide)]; exact a1, put_self _ _ _ _ _, by rw [put_j (by decide), s1 2 0 (by decide)]; exact a3, fun k hk => ?_, fun o ho => by rw [sx 20 0 (by decide)]; exact a5 o (by omega), by rw [sx 1 0 (by decide)]; exact a6.1, by rw [sx 9 0 (by decide), sx 10 0 (by decide), sx 11 0 (by decide)]; exact a6.2⟩
    unfold rowC
    rw [sx 15 0 (by decide), sx 16 0 (by decide), sx 17 0 (by decide), sx 18 0 (by decide), sx 21 0 (by decide), sx 22 0 (by decide)]
    exact a4 k hk
  obtain ⟨S4, b1, b2, b3⟩ := n_mark hw' P3
  have et : f_X8_takeBack (nI 1) S1 = some S4 := by
    unfold f_X8_takeBack j_X8_takeBack_103
    rw [if_neg (show ¬ nI 1 = 0 from by decide), if_pos (show nI 1 = 1 from rfl), en, lt_, bv_e b1]
  have s04 : Same exN S S4 := (s1.mono (by decide)).tr (((Same.rf (ex := exN)).put (by decide)).tr (b3.mono (by decide)))
  have L4 : PhC r S4 := by
    have : PhC r S1 := by rw [← hS1]; exact PhC_pop hL
    exact this.keep ((((Same.rf (ex := [(2, 0), (1, 0), (12, 0), (13, 0), (14, 0)])).put (by decide)).tr (b3.mono (by decide))) |>.keep (by decide))
  have kk : Keep rowsN S4 (put S4 0 0 8 0) := (Same.rf.put (ex := [(0, 0)]) (by decide)).keep (by decide)
  refine ⟨put S4 0 0 8 0, ?_, b2.keep kk, L4.keep ((Same.rf.put (ex := [(0, 0)]) (by decide)).keep (by decide)), put_self _ _ _ _ _, s04.put (by decide)⟩
  unfold f_X8_undo
  rw [hL.1, if_pos (show (0 : Int32) < nI (1 :: r).length from nI_lt (a := 0) (by simp) (by simp; omega)), bi_e (c_takeLatest hL hl), hS1, bv_e et, lt_, put_o rfl, L4.1]
theorem thL_cell (r : List Nat) : thL (2 :: r) = thL r := by
  funext d
  unfold thL
  simp
theorem X_undo2 {c : Nat} (hc : c + 1 ≤ 20) {lib : Nat → Cel} {r : List Nat} {S : St} (hP : PlC (c + 1) lib (thL (2 :: r)) S) (hL : PhC (2 :: r) S) (hl : r.length < 88) : ∃ S', f_X8_undo S = some (nI r.length, S') ∧ PlC c lib (thL r) S' ∧ PhC r S' ∧ S' 0 0 8 = 0 ∧ Same [(4, 0), (8, c), (7, 0), (0, 0)] S S' := by
  generalize hS1 : put S 7 0 1 (nI r.length) = S1
  have s1 : Same [(7, 0)] S S1 := by rw [← hS1]; exact Same.rf.put (by decide)
  have e4 : S1 4 0 1 = nI (c + 1) := by rw [s1 4 0 (by decide)]; exact hP.1
  generalize hS2 : put (put S1 4 0 1 (nI c)) 8 c 6 0 = S2
  have s2 : Same [(4, 0), (8, c)] S1 S2 := by rw [← hS2]; exact (Same.rf.put (by simp)).put (by simp)
  have ef : f_X3_forgetLatest S1 = some S2 := by
    unfold f_X3_forgetLatest j_X3_forgetLatest_30
    rw [e4, if_neg (nI_nle (by omega) (by omega)), nI_pred, lt_, put_self, gd_t (ix_nI (show c < 20 by omega) (by decide)), lt_, nI_clamp (show c < 2 ^ 31 by omega), hS2]
  have et : f_X8_takeBack (nI 2) S1 = some S2 := by
    unfold f_X8_takeBack j_X8_takeBack_103
    rw [if_neg (show ¬ nI 2 = 0 from by decide), if_neg (show ¬ nI 2 = 1 from by decide), if_pos (show nI 2 = 2 from rfl), bv_e ef]
  have L2 : PhC r S2 := by
    have : PhC r S1 := by rw [← hS1]; exact PhC_pop hL
    exact this.keep (s2.keep (by simp))
  have s03 : Same [(4, 0), (8, c), (7, 0), (0, 0)] S (put S2 0 0 8 0) := ((s1.mono (by simp)).tr (s2.mono (by simp))).put (by simp)
  refine ⟨put S2 0 0 8 0, ?_, ⟨?_, fun d hd => ?_⟩, L2.keep ((Same.rf.put (ex := [(0, 0)]) (by decide)).keep (by decide)), put_self _ _ _ _ _, s03⟩
  · unfold f_X8_undo
    rw [hL.1, if_pos (show (0 : Int32) < nI (2 :: r).length from nI_lt (a := 0) (by simp) (by simp; omega)), bi_e (c_takeLatest hL hl), hS1, bv_e et, lt_, put_o rfl, L2.1]
  · rw [put_o rfl, ← hS2, put_ne (by omega), put_self]
  · have r8 := s03 8 d (by simp; omega)
    have r36 := s03 36 d (by simp)
    unfold CL
    rw [r8, r36, ← thL_cell r]
    exact hP.2 d (by omega)
theorem X_undo3 {c d : Nat} (hc : c ≤ 20) (hd : d < c) {lib : Nat → Cel} {r : List Nat} {S : St} (hnr : (d + 3) ∉ r) (hP : PlC c lib (thL ((d + 3) :: r)) S) (hL : PhC ((d + 3) :: r) S) (hl : r.length < 88) : ∃ S', f_X8_undo S = some (nI r.length, S') ∧ PlC c lib (thL r) S' ∧ PhC r S' ∧ S' 0 0 8 = 0 ∧ Same [(8, d), (7, 0), (0, 0)] S S' := by
  generalize hS1 : put S 7 0 1 (nI r.length) = S1
  have s1 : Same [(7, 0)] S S1 := by rw [← hS1]; exact Same.rf.put (by decide)
  have e4 : S1 4 0 1 = nI c := by rw [s1 4 0 (by decide)]; exact hP.1
  generalize hS2 : put S1 8 d 6 1 = S2
  have s2 : Same [(8, d)] S1 S2 := by rw [← hS2]; exact Same.rf.put (by simp)
  have ef : f_X3_bringBack (nI d) S1 = some S2 := by
    unfold f_X3_bringBack j_X3_bringBack_22
    rw [if_neg (nI_pos (show d < 2 ^ 31 by omega)), e4, if_neg (nI_ge hd (by omega)), gd_t (ix_nI (show d < 20 by omega) (by decide)), lt_, nI_clamp (show d < 2 ^ 31 by omega), hS2]
  have ne : ∀ k, k < 3 → ¬ nI (d + 3) = nI k := fun k hk e => by have := (nI_eq (show d + 3 < 2 ^ 31 by omega) (by omega)).mp e; omega
  have et : f_X8_takeBack (nI (d + 3)) S1 = some S2 := by
    unfold f_X8_takeBack j_X8_takeBack_103
    rw [if_neg (show ¬ nI (d + 3) = 0 from ne 0 (by decide)), if_neg (show ¬ nI (d + 3) = 1 from ne 1 (by decide)), if_neg (show ¬ nI (d + 3) = 2 from ne 2 (by decide)), show nI (d + 3) - 3 = nI d from by rw [show (3 : Int32) = nI 3 from rfl, pk_sub (by omega), Nat.add_sub_cancel], bv_e ef]
  have L2 : PhC r S2 := by
    have : PhC r S1 := by rw [← hS1]; exact PhC_pop hL
    exact this.keep (s2.keep (by simp))
  have s03 : Same [(8, d), (7, 0), (0, 0)] S (put S2 0 0 8 0) := ((s1.mono (by simp)).tr (s2.mono (by simp))).put (by simp)
  refine ⟨put S2 0 0 8 0, ?_, ⟨?_, fun e he => ?_⟩, L2.keep ((Same.rf.put (ex := [(0, 0)]) (by decide)).keep (by decide)), put_self _ _ _ _ _, s03⟩
  · unfold f_X8_undo
    rw [hL.1, if_pos (show (0 : Int32) < nI ((d + 3) :: r).length from nI_lt (a := 0) (by simp) (by simp; omega)), bi_e (c_takeLatest hL hl), hS1, bv_e et, lt_, put_o rfl, L2.1]
  · rw [s03 4 0 (by simp)]; exact hP.1
  · obtain ⟨⟨b1, b2, b3, b4⟩, b5, b6, b7⟩ := hP.2 e he
    have r8 : ∀ j, put S2 0 0 8 0 8 e j = if e = d ∧ j = 6 then 1 else S 8 e j := fun j => by
      rw [put_ne (by omega), ← hS2, put_at, s1 8 e (by simp)]
      by_cases z : e = d ∧ j = 6
      · rw [if_pos ⟨rfl, z.1, z.2⟩, if_pos z]
      · rw [if_neg (fun q => z q.2), if_neg z]
    have r36 := s03 36 e (by simp)
    refine ⟨⟨by rw [r8, if_neg (by omega)]; exact b1, by rw [r8, if_neg (by omega)]; exact b2, by rw [r8, if_neg (by omega)]; exact b3, by rw [r36]; exact b4⟩, by rw [r8, if_neg (by omega)]; exact b5, by rw [r8, if_neg (by omega)]; exact b6, ?_⟩
    rw [r8]
    by_cases z : e = d
    · subst z
      rw [if_pos ⟨rfl, rfl⟩, thL_t.mpr hnr]; rfl
    · rw [if_neg (fun q => z q.1), b7, thL_drop, addL_ne z]
theorem X_undo_no {S : St} (h : PhC [] S) : f_X8_undo S = some (-2, S) := by
  unfold f_X8_undo
  rw [h.1, if_neg (show ¬ (0 : Int32) < nI ([] : List Nat).length from by decide)]
