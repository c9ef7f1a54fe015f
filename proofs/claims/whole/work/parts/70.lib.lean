/-! THE LIBRARY: of each cell AREA, DELAY, how many symbols, the symbols; whether it is there -/
abbrev Cel : Type := Int32 × Int32 × Nat × (Nat → Nat)
def PlC (c : Nat) (lib : Nat → Cel) (th : Nat → Bool) (S : St) : Prop := S 4 0 1 = nI c ∧ ∀ d, d < c → CL d (lib d).2.2.1 (lib d).2.2.2 S ∧ S 8 d 4 = (lib d).1 ∧ S 8 d 5 = (lib d).2.1 ∧ S 8 d 6 = b01 (th d)
def PlM (c : Nat) (lib : Nat → Cel) (th : Nat → Bool) (T : St) : Prop := T 0 0 22 = nI c ∧ ∀ d, d < c → ML d (lib d).2.2.1 (lib d).2.2.2 T ∧ T 17 0 d = (lib d).1 ∧ T 18 0 d = (lib d).2.1 ∧ T 19 0 d = nI (lib d).2.2.1 ∧ T 16 0 d = b01 (th d)
/-- a text's tree is whole: 1 .. 12 symbols, the first no PIN, all parts there, none left over -/
def okCel (q : Cel) : Prop := 1 ≤ q.2.2.1 ∧ q.2.2.1 ≤ 12 ∧ (∀ i, i < q.2.2.1 → q.2.2.2 i ≤ 7 ∧ pend q.2.2.2 i ≠ []) ∧ pend q.2.2.2 q.2.2.1 = [] ∧ 6 ≤ q.2.2.2 0
def WfL (c : Nat) (lib : Nat → Cel) : Prop := c ≤ 20 ∧ ∀ d, d < c → okCel (lib d)
def addL {α : Type} (f : Nat → α) (n : Nat) (x : α) : Nat → α := fun j => if j = n then x else f j
theorem addL_at {α : Type} (f : Nat → α) (n : Nat) (x : α) : addL f n x n = x := if_pos rfl
theorem addL_ne {α : Type} {f : Nat → α} {n j : Nat} {x : α} (h : j ≠ n) : addL f n x j = f j := if_neg h
def rdCel (tp : Nat → Int32) (ln : Nat) : Cel := ((rdc tp ln).2.2.1, (rdc tp ln).2.2.2.1, (rdc tp ln).2.2.2.2.1, (rdc tp ln).2.2.2.2.2)
theorem rdc_ok {tp : Nat → Int32} {ln : Nat} (h : (rdc tp ln).1 = 0) : okCel (rdCel tp ln) := by
  unfold rdCel rdc at *
  split at h
  · rename_i q; exact absurd h q
  · rename_i q
    rw [if_neg q]
    unfold rdD at h ⊢
    split at h
    · rename_i q2; exact absurd h q2
    · rename_i q2
      rw [if_neg q2]
      unfold rdT at h ⊢
      split at h
      · rename_i q3; exact absurd h q3
      · rename_i q3
        rw [if_neg q3]
        split at h
        · cases h
        · rename_i q4
          rw [if_neg q4]
          have q3 : (trs tp ln 14 0 1 (rnm tp ln 0 99 (rnm tp ln 1 999 0).2.1).2.1 (fun _ => 0)).1 = 0 := by omega
          have := trs_ok tp (ln := ln) 14 0 (rnm tp ln 0 99 (rnm tp ln 1 999 0).2.1).2.1 (fun _ => 0) (by omega) (fun i hi => absurd hi (by omega)) (fun hi => absurd hi (by omega)) q3
          obtain ⟨-, a2, a3, a4, a5⟩ := this
          have a2 : ∀ i, i < (trs tp ln 14 0 1 (rnm tp ln 0 99 (rnm tp ln 1 999 0).2.1).2.1 (fun _ => 0)).2.2.1 → _ := a2
          have a3 : pend (trs tp ln 14 0 1 (rnm tp ln 0 99 (rnm tp ln 1 999 0).2.1).2.1 (fun _ => 0)).2.2.2 (trs tp ln 14 0 1 (rnm tp ln 0 99 (rnm tp ln 1 999 0).2.1).2.1 (fun _ => 0)).2.2.1 = [] := a3
          have a4 : 0 < (trs tp ln 14 0 1 (rnm tp ln 0 99 (rnm tp ln 1 999 0).2.1).2.1 (fun _ => 0)).2.2.1 → _ := a4
          have a5 : (trs tp ln 14 0 1 (rnm tp ln 0 99 (rnm tp ln 1 999 0).2.1).2.1 (fun _ => 0)).2.2.1 ≤ 12 := a5
          have hpos : 0 < (trs tp ln 14 0 1 (rnm tp ln 0 99 (rnm tp ln 1 999 0).2.1).2.1 (fun _ => 0)).2.2.1 := by
            cases e : (trs tp ln 14 0 1 (rnm tp ln 0 99 (rnm tp ln 1 999 0).2.1).2.1 (fun _ => 0)).2.2.1 with
            | zero => rw [e] at a3; cases a3
            | succ n => omega
          exact ⟨hpos, a5, a2, a3, a4 hpos⟩
theorem X_cell_full {S : St} (h : S 4 0 1 = nI 20) : f_X8_cell S = some (-3, S) := by
  unfold f_X8_cell
  rw [h, if_neg (show ¬ nI 20 < 20 from by decide)]
theorem PlC.same {c : Nat} {lib : Nat → Cel} {th : Nat → Bool} {S S' : St} (h : PlC c lib th S) (h4 : S' 4 0 = S 4 0) (h8 : ∀ d, d < c → S' 8 d = S 8 d ∧ S' 36 d = S 36 d) : PlC c lib th S' := by
  refine ⟨by rw [h4]; exact h.1, fun d hd => ?_⟩
  obtain ⟨a, b⟩ := h8 d hd
  unfold CL
  rw [a, b]
  exact h.2 d hd
/-- what cell() may change of the class's state but the history and the cover -/
theorem X_cell {c ln : Nat} (hc : c < 20) (hl : ln ≤ 60) {tp : Nat → Int32} {lib : Nat → Cel} {th : Nat → Bool} {L : List Nat} {S : St} (hP : PlC c lib th S) (hT : TC ln tp S) (hL : PhC L S) (hl8 : L.length < 88) : ((rdc tp ln).1 ≠ 0 → ∃ S', f_X8_cell S = some (-100 - nI (rdc tp ln).2.1, S') ∧ PlC c lib th S' ∧ S' 3 0 1 = 0 ∧ S' 3 0 3 = nI (rdc tp ln).1 ∧ Same [(3, 0), (8, c), (36, c)] S S') ∧ ((rdc tp ln).1 = 0 → ∃ S', f_X8_cell S = some (nI c, S') ∧ PlC (c + 1) (addL lib c (rdCel tp ln)) (addL th c true) S' ∧ S' 3 0 1 = 0 ∧ S' 3 0 3 = 0 ∧ PhC (2 :: L) S' ∧ S' 0 0 8 = 0 ∧ Same [(3, 0), (4, 0), (8, c), (36, c), (7, 0), (35, 0), (0, 0)] S S') := by
  obtain ⟨S1, a1, a2, a3, a4, a5, a6⟩ := c_readInto hl (c := c) hT
  have hb : f_X8_cell S = if b01 ((rdc tp ln).1 == 0) = 0 then some (-100 - put S1 3 0 1 0 3 0 2, put S1 3 0 1 0) else bv (f_X8_noteChange 2 (put S1 3 0 1 0)) (fun q_8 => bi (f_X3_keepNext q_8) (fun r_11 S_12 => some (r_11, S_12))) := by
    unfold f_X8_cell
    rw [hP.1, if_pos (show nI c < 20 from nI_lt (b := 20) hc (by decide)), gd_t (ix_nI hc (by decide)), nI_clamp (show c < 2 ^ 31 by omega), bi_e a1, lt_]
  generalize hS2 : put S1 3 0 1 0 = S2 at hb
  have s2 : Same [(3, 0), (8, c), (36, c)] S S2 := by rw [← hS2]; exact a5.put (by simp)
  have P2 : PlC c lib th S2 := hP.same (s2 4 0 (by simp)) (fun d hd => ⟨s2 8 d (by simp; omega), s2 36 d (by simp; omega)⟩)
  have e1 : S2 3 0 1 = 0 := by rw [← hS2, put_self]
  have e2 : S2 3 0 2 = S1 3 0 2 := by rw [← hS2, put_j (by decide)]
  have e3 : S2 3 0 3 = S1 3 0 3 := by rw [← hS2, put_j (by decide)]
  refine ⟨fun hf => ?_, fun hf => ?_⟩
  · rw [show ((rdc tp ln).1 == 0) = false from by simp [hf], if_pos (show b01 false = 0 from rfl), e2, a3 hf] at hb
    exact ⟨S2, hb, P2, e1, by rw [e3]; exact a2, s2⟩
  · rw [show ((rdc tp ln).1 == 0) = true from by simp [hf], if_neg (show ¬ b01 true = 0 from by decide)] at hb
    obtain ⟨b1, b2, b3⟩ := a4 hf
    obtain ⟨S3, c1, c2, c3, c4⟩ := c_note (x := 2) (hL.keep (s2.keep (by simp))) hl8
    have c1 : f_X8_noteChange 2 S2 = some S3 := c1
    have h4 : S3 4 0 1 = nI c := by rw [c4 4 0 (by decide)]; exact P2.1
    generalize hS4 : put (put S3 8 c 6 1) 4 0 1 (nI (c + 1)) = S4
    have e4 : f_X3_keepNext S3 = some (nI c, S4) := by
      unfold f_X3_keepNext
      rw [h4, lt_, gd_t (ix_nI hc (by decide)), lt_, nI_clamp (show c < 2 ^ 31 by omega), lt_, put_ne (by omega), h4, nI_1, hS4]
    rw [bv_e c1, bi_e e4] at hb
    have s4 : Same [(4, 0), (8, c)] S3 S4 := by rw [← hS4]; exact (Same.rf.put (by simp)).put (by simp)
    have h8c : ∀ j, j ≠ 6 → S4 8 c j = S1 8 c j := fun j hj => by
      rw [← hS4, put_ne (by omega), put_j hj, c4 8 c (by simp), ← hS2, put_ne (by omega)]
    have h36 : S4 36 c = S1 36 c := by
      rw [s4 36 c (by simp), c4 36 c (by simp), ← hS2, put_ne (by omega)]
    refine ⟨S4, hb, ⟨by rw [← hS4, put_self], fun d hd => ?_⟩, ?_, ?_, c2.keep (s4.keep (by simp)), ?_, ?_⟩
    · by_cases z : d = c
      · subst z
        rw [addL_at, addL_at]
        obtain ⟨w1, w2, w3, w4⟩ := b1
        refine ⟨⟨by rw [h8c 1 (by decide)]; exact w1, by rw [h8c 2 (by decide)]; exact w2, by rw [h8c 3 (by decide)]; exact w3, by rw [h36]; exact w4⟩, by rw [h8c 4 (by decide)]; exact b2, by rw [h8c 5 (by decide)]; exact b3, ?_⟩
        rw [← hS4, put_ne (by omega), put_self]; rfl
      · rw [addL_ne z, addL_ne z]
        have r8 : S4 8 d = S2 8 d := by rw [s4 8 d (by simp; omega), c4 8 d (by simp)]
        have r36 : S4 36 d = S2 36 d := by rw [s4 36 d (by simp), c4 36 d (by simp)]
        unfold CL
        rw [r8, r36]
        exact P2.2 d (by omega)
    · rw [s4 3 0 (by simp), c4 3 0 (by decide)]; exact e1
    · rw [s4 3 0 (by simp), c4 3 0 (by decide), e3, a2, hf]; rfl
    · rw [s4 0 0 (by simp)]; exact c3
    · exact ((s2.mono (by simp)).tr (c4.mono (by simp))).tr (s4.mono (by simp))
theorem M_cell_full {T : St} (h : T 0 0 22 = nI 20) : f_X9_cell T = some (-3, T) := by
  unfold f_X9_cell
  rw [h, if_pos (show nI 20 = 20 from rfl)]
theorem PlM.same {c : Nat} {lib : Nat → Cel} {th : Nat → Bool} {T T' : St} (h : PlM c lib th T) (h22 : T' 0 0 22 = T 0 0 22) (ho : ∀ d, d < c → OthM d T' T' ∧ T' 20 0 d = T 20 0 d ∧ T' 21 0 d = T 21 0 d ∧ (∀ j, 12 * d ≤ j → j < 12 * d + 12 → T' 22 0 j = T 22 0 j ∧ T' 23 0 j = T 23 0 j ∧ T' 24 0 j = T 24 0 j ∧ T' 25 0 j = T 25 0 j) ∧ T' 17 0 d = T 17 0 d ∧ T' 18 0 d = T 18 0 d ∧ T' 19 0 d = T 19 0 d ∧ T' 16 0 d = T 16 0 d) (hs : ∀ d, d < c → (lib d).2.2.1 ≤ 12) : PlM c lib th T' := by
  refine ⟨by rw [h22]; exact h.1, fun d hd => ?_⟩
  obtain ⟨⟨m1, m2, m3, m4⟩, a2, a3, a4, a5⟩ := h.2 d hd
  obtain ⟨-, b1, b2, b3, b4, b5, b6, b7⟩ := ho d hd
  have h12 := hs d hd
  refine ⟨⟨by rw [b1]; exact m1, by rw [b2]; exact m2, fun i hi => ?_, fun i hi o b r hq => ?_⟩, by rw [b4]; exact a2, by rw [b5]; exact a3, by rw [b6]; exact a4, by rw [b7]; exact a5⟩
  · obtain ⟨x1, x2, -, -⟩ := b3 (12 * d + i) (by omega) (by omega)
    rw [x1, x2]
    exact m3 i hi
  · have ho := (pend_ok (lib d).2.2.2 i).2.1 o b (by rw [hq]; exact List.mem_cons_self)
    obtain ⟨-, -, x3, x4⟩ := b3 (12 * d + o) (by omega) (by omega)
    have := m4 i hi o b r hq
    cases b
    · simp only [show ((false = true) = False) from by simp, if_false] at this ⊢
      rw [x3]; exact this
    · simp only [if_true] at this ⊢
      rw [x4]; exact this
