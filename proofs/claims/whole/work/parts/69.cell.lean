/-! cell(): what a tape tells -/
def rdT (tp : Nat → Int32) (ln : Nat) (a d : Int32) (t : Nat × Nat × Nat × (Nat → Nat)) : Nat × Nat × Int32 × Int32 × Nat × (Nat → Nat) :=
  if t.1 ≠ 0 then (t.1, t.2.1, a, d, t.2.2) else if skp tp ln t.2.1 < ln then (1, skp tp ln t.2.1, a, d, t.2.2) else (0, 0, a, d, t.2.2)
def rdD (tp : Nat → Int32) (ln : Nat) (a : Int32) (q : Int32 × Nat × Nat × Nat) : Nat × Nat × Int32 × Int32 × Nat × (Nat → Nat) :=
  if q.2.2.1 ≠ 0 then (q.2.2.1, q.2.2.2, a, 0, 0, fun _ => 0) else rdT tp ln a q.1 (trs tp ln 14 0 1 q.2.1 (fun _ => 0))
/-- the FAULT (0: none), its place, AREA, DELAY, how many symbols, the symbols -/
def rdc (tp : Nat → Int32) (ln : Nat) : Nat × Nat × Int32 × Int32 × Nat × (Nat → Nat) :=
  if (rnm tp ln 1 999 0).2.2.1 ≠ 0 then ((rnm tp ln 1 999 0).2.2.1, (rnm tp ln 1 999 0).2.2.2, 0, 0, 0, fun _ => 0) else rdD tp ln (rnm tp ln 1 999 0).1 (rnm tp ln 0 99 (rnm tp ln 1 999 0).2.1)
theorem trs_ok (tp : Nat → Int32) {ln : Nat} : ∀ (f k p : Nat) (sy : Nat → Nat), k ≤ 12 → (∀ i, i < k → sy i ≤ 7 ∧ pend sy i ≠ []) → (0 < k → 6 ≤ sy 0) → (trs tp ln f k (pend sy k).length p sy).1 = 0 → k ≤ (trs tp ln f k (pend sy k).length p sy).2.2.1 ∧ (∀ i, i < (trs tp ln f k (pend sy k).length p sy).2.2.1 → (trs tp ln f k (pend sy k).length p sy).2.2.2 i ≤ 7 ∧ pend (trs tp ln f k (pend sy k).length p sy).2.2.2 i ≠ []) ∧ pend (trs tp ln f k (pend sy k).length p sy).2.2.2 (trs tp ln f k (pend sy k).length p sy).2.2.1 = [] ∧ (0 < (trs tp ln f k (pend sy k).length p sy).2.2.1 → 6 ≤ (trs tp ln f k (pend sy k).length p sy).2.2.2 0) ∧ (trs tp ln f k (pend sy k).length p sy).2.2.1 ≤ 12
  | 0, k, p, sy, _, _, _, h => by rw [trs] at h; cases h
  | f + 1, k, p, sy, hk, h1, h2, h => by
    rw [trs] at h ⊢
    by_cases z : (pend sy k).length = 0
    · rw [if_pos z]
      exact ⟨Nat.le_refl k, h1, List.eq_nil_of_length_eq_zero z, h2, hk⟩
    · rw [if_neg z] at h ⊢
      cases hq : symAt tp ln p with
      | none => rw [hq] at h; cases h
      | some s =>
        rw [hq] at h
        simp only at h ⊢
        by_cases y : k = 0 ∧ s < 6
        · rw [if_pos y] at h; cases h
        · rw [if_neg y] at h ⊢
          by_cases w : k = 12
          · rw [if_pos w] at h; cases h
          · rw [if_neg w] at h ⊢
            have hcg : ∀ i, i ≤ k → pend (updN sy k s) i = pend sy i := fun i hi => pend_cg (fun j hj => updN_lt (by omega))
            have hne : pend sy k ≠ [] := fun e => z (by rw [e]; rfl)
            have ln2 : nxd s (pend sy k).length = (pend (updN sy k s) (k + 1)).length := by
              rw [pend_len (by rw [hcg k (Nat.le_refl k)]; exact hne), hcg k (Nat.le_refl k), updN_at]
            rw [ln2] at h ⊢
            obtain ⟨a1, a2⟩ := trs_ok tp f (k + 1) (skp tp ln p + 1) (updN sy k s) (by omega) (fun i hi => by
              rw [hcg i (by omega)]
              by_cases e : i = k
              · subst e
                rw [updN_at]
                exact ⟨(symAt_lt hq).1, hne⟩
              · rw [updN_lt (by omega)]
                exact h1 i (by omega)) (fun _ => by
              by_cases e : k = 0
              · subst e
                rw [updN_at]
                omega
              · rw [updN_lt (by omega)]
                exact h2 (by omega)) h
            exact ⟨by omega, a2⟩
theorem rnm_dig (tp : Nat → Int32) (ln : Nat) (lo hi : Int32) (p : Nat) : (rnm tp ln lo hi p).2.2.1 = 0 → dig tp ln (rnm tp ln lo hi p).2.1 = false := by
  unfold rnm
  generalize nm tp ln 3 (skp tp ln p) 0 = r
  unfold rn2
  intro h
  split at h
  · cases h
  · split at h
    · cases h
    · split at h
      · cases h
      · rename_i a b d
        rw [if_neg a, if_neg b, if_neg d]
        simpa using d
theorem rnm_no {tp : Nat → Int32} {ln : Nat} {lo hi : Int32} {p : Nat} (h : dig tp ln p = false) (hb : ¬ (p < ln ∧ tp p = 32)) : rnm tp ln lo hi p = (0, p, 1, p) := by
  unfold rnm
  rw [skp_stop hb, nm, if_neg (by rw [h]; decide), rn2, if_pos rfl]
theorem c_readInto {ln : Nat} (hl : ln ≤ 60) {tp : Nat → Int32} {c : Nat} {S : St} (h : TC ln tp S) : ∃ S', f_X6_readInto c S = some (b01 ((rdc tp ln).1 == 0), S') ∧ S' 3 0 3 = nI (rdc tp ln).1 ∧ ((rdc tp ln).1 ≠ 0 → S' 3 0 2 = nI (rdc tp ln).2.1) ∧ ((rdc tp ln).1 = 0 → CL c (rdc tp ln).2.2.2.2.1 (rdc tp ln).2.2.2.2.2 S' ∧ S' 8 c 4 = (rdc tp ln).2.2.1 ∧ S' 8 c 5 = (rdc tp ln).2.2.2.1) ∧ Same [(3, 0), (8, c), (36, c)] S S' ∧ S' 8 c 6 = S 8 c 6 := by
  unfold f_X6_readInto
  generalize hS2 : put (put S 3 0 3 0) 3 0 2 0 = S2
  have t2 : TC ln tp S2 := by rw [← hS2]; exact ⟨by rw [put_j (by decide), put_j (by decide)]; exact h.1, by rw [put_o rfl, put_o rfl]; exact h.2⟩
  have p2 : S2 3 0 2 = nI 0 := by rw [← hS2, put_self]; rfl
  have f2 : S2 3 0 3 = 0 := by rw [← hS2, put_j (by decide), put_self]
  have s2 : Same [(3, 0)] S S2 := by rw [← hS2]; exact (Same.rf.put (by decide)).put (by decide)
  rw [lt_, lt_, hS2, bi_e (c_number hl 1 999 t2 p2 (by omega) f2)]
  have ra := rnm_le tp (ln := ln) 1 999 (p := 0) (by omega)
  have rd := rnm_dig tp ln 1 999 0
  unfold rdc
  generalize rnm tp ln 1 999 0 = A at ra rd ⊢
  generalize hS5 : put (put S2 3 0 2 (nI (plc A))) 3 0 3 (nI A.2.2.1) = S5
  have s5 : Same [(3, 0)] S2 S5 := by rw [← hS5]; exact (Same.rf.put (by decide)).put (by decide)
  generalize hS6 : put S5 8 c 4 A.1 = S6
  rw [lt_]
  have s6 : Same [(3, 0), (8, c)] S2 S6 := by rw [← hS6]; exact (s5.mono (by simp)).put (by simp)
  have e6 : S6 3 0 = S5 3 0 := by rw [← hS6]; exact put_ne (by omega)
  have e62 : S6 3 0 2 = nI (plc A) := by rw [e6, ← hS5, put_j (by decide), put_self]
  have e63 : S6 3 0 3 = nI A.2.2.1 := by rw [e6, ← hS5, put_self]
  have e64 : S6 8 c 4 = A.1 := by rw [← hS6, put_self]
  have e66 : S6 8 c 6 = S 8 c 6 := by rw [← hS6, put_j (by decide), s5 8 c (by simp), s2 8 c (by simp)]
  have t6 : TC ln tp S6 := ⟨by rw [e6, ← hS5, put_j (by decide), put_j (by decide)]; exact t2.1, by rw [s6 23 0 (by simp)]; exact t2.2⟩
  have s06 : Same [(3, 0), (8, c), (36, c)] S S6 := (s2.mono (by simp)).tr (s6.mono (by simp))
  by_cases fa : A.2.2.1 ≠ 0
  · have hne : ¬ S6 3 0 3 = 0 := by
      rw [e63]
      exact nI_ne0 (by omega) (by omega)
    rw [if_neg hne]
    simp only [if_pos fa]
    refine ⟨S6, by rw [show (A.2.2.1 == 0) = false from by simp [fa]]; rfl, e63, fun _ => by rw [e62]; unfold plc; rw [if_neg fa], fun q => absurd q fa, s06, e66⟩
  · have fa0 : A.2.2.1 = 0 := by omega
    have hz : S6 3 0 3 = 0 := by rw [e63, fa0]; rfl
    have pA : plc A = A.2.1 := by unfold plc; rw [if_pos fa0]
    rw [pA] at e62
    rw [if_pos hz]
    simp only [if_neg fa]
    -- the number DELAY, in both ways
    have r2 := rnm_le tp (ln := ln) 0 99 (p := A.2.1) ra.1
    have b0 : ∀ S' : St, gd (bz 0) (some ((0 : Int32), S')) = some (b01 false, S') := fun _ => rfl
    by_cases bl : A.2.1 < ln ∧ tp A.2.1 = 32
    · have ne1 : ¬ S6 3 0 1 ≤ S6 3 0 2 := by rw [t6.1, e62]; exact nI_ge bl.1 (by omega)
      rw [if_neg ne1, e62, gd_t (ix_nI (show A.2.1 < 60 by omega) (by decide)), lt_, nI_clamp (show A.2.1 < 2 ^ 31 by omega), t6.2 _ bl.1, if_pos bl.2, bi_e (c_number hl 0 99 t6 e62 ra.1 hz)]
      unfold rdD
      generalize rnm tp ln 0 99 A.2.1 = D at r2 ⊢
      generalize hS8 : put (put S6 3 0 2 (nI (plc D))) 3 0 3 (nI D.2.2.1) = S8
      rw [lt_]
      generalize hS9 : put S8 8 c 5 D.1 = S9
      have s8 : Same [(3, 0)] S6 S8 := by rw [← hS8]; exact (Same.rf.put (by decide)).put (by decide)
      have s9 : Same [(3, 0), (8, c)] S6 S9 := by rw [← hS9]; exact (s8.mono (by simp)).put (by simp)
      have e9 : S9 3 0 = S8 3 0 := by rw [← hS9]; exact put_ne (by omega)
      have e92 : S9 3 0 2 = nI (plc D) := by rw [e9, ← hS8, put_j (by decide), put_self]
      have e93 : S9 3 0 3 = nI D.2.2.1 := by rw [e9, ← hS8, put_self]
      have e95 : S9 8 c 5 = D.1 := by rw [← hS9, put_self]
      have e94 : S9 8 c 4 = A.1 := by rw [← hS9, put_j (by decide), s8 8 c (by simp)]; exact e64
      have e96 : S9 8 c 6 = S 8 c 6 := by rw [← hS9, put_j (by decide), s8 8 c (by simp)]; exact e66
      have t9 : TC ln tp S9 := ⟨by rw [e9, ← hS8, put_j (by decide), put_j (by decide)]; exact t6.1, by rw [s9 23 0 (by simp)]; exact t6.2⟩
      have s09 : Same [(3, 0), (8, c), (36, c)] S S9 := s06.tr (s9.mono (by simp))
      by_cases fd : D.2.2.1 ≠ 0
      · have hne : ¬ S9 3 0 3 = 0 := by
          rw [e93]
          exact nI_ne0 (by omega) (by omega)
        rw [if_neg hne]
        simp only [if_pos fd]
        exact ⟨S9, by rw [show (D.2.2.1 == 0) = false from by simp [fd]]; rfl, e93, fun _ => by rw [e92]; unfold plc; rw [if_neg fd], fun q => absurd q fd, s09, e96⟩
      · have fd0 : D.2.2.1 = 0 := by omega
        have hz9 : S9 3 0 3 = 0 := by rw [e93, fd0]; rfl
        have pD : plc D = D.2.1 := by unfold plc; rw [if_pos fd0]
        rw [pD] at e92
        rw [if_pos hz9]
        simp only [if_neg fd]
        -- the tree
        generalize hS10 : put (put (put S9 8 c 1 0) 8 c 2 0) 8 c 3 0 = S10
        have s10 : Same [(8, c)] S9 S10 := by rw [← hS10]; exact ((Same.rf.put (by simp)).put (by simp)).put (by simp)
        have o10 : ∀ j, j ≠ 1 → j ≠ 2 → j ≠ 3 → S10 8 c j = S9 8 c j := fun j u v w => by rw [← hS10, put_j w, put_j v, put_j u]
        have C10 : CL c 0 (fun _ => 0) S10 := by
          rw [← hS10]
          exact ⟨by simp [put_at]; rfl, by simp [put_at]; rfl, by simp [put_at]; rfl, fun i hi => absurd hi (by omega)⟩
        obtain ⟨S11, a1, a2, a3, a4, a5, a6, a7⟩ := c_treel hl (c := c) 5000 14 0 1 D.2.1 (fun _ => 0) S10 ⟨by rw [s10 3 0 (by simp)]; exact t9.1, by rw [s10 23 0 (by simp)]; exact t9.2⟩ (by rw [s10 3 0 (by simp)]; exact e92) (by omega) (by rw [s10 3 0 (by simp)]; exact hz9) (by omega) (by omega) (by omega) (by omega) C10
        have er : f_X6_readTree c S9 = some (b01 ((trs tp ln 14 0 1 D.2.1 (fun _ => 0)).1 == 0), S11) := by
          unfold f_X6_readTree f_X0_clearTree
          rw [lt_, lt_, lt_, hS10]
          exact a1
        have tl := trs_le tp (ln := ln) 14 0 1 D.2.1 (fun _ => 0) (by omega) (by omega)
        rw [bi_e er]
        unfold rdT
        generalize trs tp ln 14 0 1 D.2.1 (fun _ => 0) = U at a2 a3 a4 tl ⊢
        have s011 : Same [(3, 0), (8, c), (36, c)] S S11 := s09.tr ((s10.mono (by simp)).tr a5)
        have e116 : S11 8 c 6 = S 8 c 6 := by rw [a7 6 (by decide) (by decide) (by decide), o10 6 (by decide) (by decide) (by decide)]; exact e96
        by_cases fu : U.1 ≠ 0
        · rw [show (U.1 == 0) = false from by simp [fu], if_pos (show b01 false = 0 from rfl)]
          simp only [if_pos fu]
          refine ⟨S11, ?_, a2, fun _ => a3, fun q => absurd q fu, s011, e116⟩
          rw [show (U.1 == 0) = false from by simp [fu]]
          rfl
        · have fu0 : U.1 = 0 := by omega
          rw [show (U.1 == 0) = true from by simp [fu0], if_neg (show ¬ b01 true = 0 from by decide)]
          simp only [if_neg fu]
          have t11 : TC ln tp S11 := ⟨a6, by rw [a5 23 0 (by simp), s10 23 0 (by simp)]; exact t9.2⟩
          have hq := skp_le tp (ln := ln) (p := U.2.1) tl.1
          have e12 : f_X6_skipBlanks S11 = some (put S11 3 0 2 (nI (skp tp ln U.2.1))) := c_skip hl t11 a3 tl.1
          unfold f_X6_readEnd j_X6_readEnd_27 j_X6_readEnd_32
          rw [bv_e e12]
          simp only [put_j (show (1 : Nat) ≠ 2 by decide), put_self, t11.1]
          have CLk : ∀ S' : St, (∀ j, S' 8 c j = S11 8 c j) → (∀ j, S' 36 c j = S11 36 c j) → CL c U.2.2.1 U.2.2.2 S' ∧ S' 8 c 4 = A.1 ∧ S' 8 c 5 = D.1 := by
            intro S' h8 h36
            obtain ⟨w1, w2, w3, w4⟩ := a4
            refine ⟨⟨by rw [h8]; exact w1, by rw [h8]; exact w2, by rw [h8]; exact w3, fun i hi => by rw [h36]; exact w4 i hi⟩, ?_, ?_⟩
            · rw [h8, a7 4 (by decide) (by decide) (by decide), o10 4 (by decide) (by decide) (by decide)]; exact e94
            · rw [h8, a7 5 (by decide) (by decide) (by decide), o10 5 (by decide) (by decide) (by decide)]; exact e95
          by_cases en : skp tp ln U.2.1 < ln
          · rw [if_neg (nI_ge en (by omega))]
            simp only [if_pos en]
            have ef : f_X6_failAt (nI (skp tp ln U.2.1)) 1 (put S11 3 0 2 (nI (skp tp ln U.2.1))) = some (0, put (put (put S11 3 0 2 (nI (skp tp ln U.2.1))) 3 0 2 (nI (skp tp ln U.2.1))) 3 0 3 1) := rfl
            rw [bi_e ef, if_pos rfl]
            refine ⟨put (put (put S11 3 0 2 (nI (skp tp ln U.2.1))) 3 0 2 (nI (skp tp ln U.2.1))) 3 0 3 1, rfl, put_self _ _ _ _ _, fun _ => by rw [put_j (by decide), put_self], fun q => absurd q (by decide), ?_, ?_⟩
            · exact s011.tr (((Same.rf.put (by simp)).put (by simp)).put (by simp))
            · rw [put_ne (by omega), put_ne (by omega), put_ne (by omega)]; exact e116
          · rw [if_pos (nI_le (by omega) (by omega))]
            simp only [if_neg en]
            refine ⟨put S11 3 0 2 (nI (skp tp ln U.2.1)), rfl, ?_, fun q => absurd rfl q, fun _ => CLk _ (fun j => by rw [put_ne (by omega)]) (fun j => by rw [put_ne (by omega)]), ?_, ?_⟩
            · rw [put_j (by decide), a2, fu0]
            · exact s011.tr (Same.rf.put (by simp))
            · rw [put_ne (by omega)]; exact e116
    · -- no blank behind AREA: the same fault as DELAY has there
      have e56 : (if S6 3 0 1 ≤ S6 3 0 2 then j_X6_readInto_56 S6 else gd (ix (S6 3 0 2) 60) (lt_ (S6 23 0 (S6 3 0 2).toNatClampNeg) (fun v_14 => if v_14 = 32 then bi (f_X6_readNumber 0 99 S6) (fun r_17 S_18 => lt_ (put S_18 8 c 5 r_17) (fun S_19 => if (S_19 3 0 3) = 0 then bi (f_X6_readTree c S_19) (fun r_23 S_24 => if r_23 = 0 then j_X6_readInto_103 S_24 else bi (f_X6_readEnd S_24) (fun r_27 S_28 => if r_27 = 0 then j_X6_readInto_103 S_28 else j_X6_readInto_104 S_28 1)) else j_X6_readInto_103 S_19)) else j_X6_readInto_56 S6))) = j_X6_readInto_56 S6 := by
        rw [t6.1, e62]
        by_cases y : A.2.1 < ln
        · rw [if_neg (nI_ge y (by omega)), gd_t (ix_nI (show A.2.1 < 60 by omega) (by decide)), lt_, nI_clamp (show A.2.1 < 2 ^ 31 by omega), t6.2 _ y, if_neg (fun e => bl ⟨y, e⟩)]
        · rw [if_pos (nI_le (by omega) (by omega))]
      rw [e56]
      unfold rdD
      rw [rnm_no (rd fa0) bl]
      simp only [show ((1 : Nat) ≠ 0) = True from by simp, if_true]
      unfold j_X6_readInto_56
      have ef : f_X6_failAt (S6 3 0 2) 1 S6 = some (0, put (put S6 3 0 2 (S6 3 0 2)) 3 0 3 1) := rfl
      rw [bi_e ef, b0]
      refine ⟨put (put S6 3 0 2 (S6 3 0 2)) 3 0 3 1, rfl, put_self _ _ _ _ _, fun _ => by rw [put_j (by decide), put_self]; exact e62, fun q => absurd q (by decide), s06.tr ((Same.rf.put (by simp)).put (by simp)), ?_⟩
      rw [put_ne (by omega), put_ne (by omega)]
      exact e66
