/-! The net's part of a state, of the class (PnC) and of the reference (PnM); the history (PhC, PhM) -/
def vos (N : Nd) (n : Nat) (ou : Nat → Nat) : Nat → Nat := fun o => (bld N n).2 (ou o)
def rowC (N : Nd) (S : St) (k : Nat) : Prop := S 15 0 k = nI (N k).1 ∧ ((N k).1 ≠ 7 → S 16 0 k = nI (N k).2.1 ∧ S 17 0 k = nI (N k).2.2.1 ∧ S 18 0 k = nI (N k).2.2.2) ∧ S 21 0 k = nI (bld N k).1.1 ∧ S 22 0 k = nI ((bld N (k + 1)).2 k)
def isInp (N : Nd) : Nat → Bool := fun k => (N k).1 == 7
/-- the class's net without the marks -/
def Pn0 (N : Nd) (n m : Nat) (ou : Nat → Nat) (S : St) : Prop := S 2 0 8 = nI n ∧ S 2 0 10 = nI m ∧ S 2 0 9 = nI (ctB (isInp N) n) ∧ (∀ k, k < n → rowC N S k) ∧ (∀ o, o < m → S 20 0 o = nI (ou o)) ∧ CG (bld N n).1 S
def PnC (N : Nd) (n m : Nat) (ou : Nat → Nat) (S : St) : Prop := Pn0 N n m ou S ∧ EM (bld N n).1 m (vos N n ou) S ∧ S 1 0 7 = nI (ctB (lvs (bld N n).1 m (vos N n ou)) (bld N n).1.1) ∧ S 1 0 8 = nI (ctB (rts (bld N n).1 m (vos N n ou)) (bld N n).1.1)
def WfN (N : Nd) (n m : Nat) (ou : Nat → Nat) : Prop := n ≤ 40 ∧ m ≤ 8 ∧ wfN N n ∧ ∀ o, o < m → ou o < n
def rowsN : List (Nat × Nat) := [(1, 0), (2, 0), (9, 0), (10, 0), (11, 0), (12, 0), (13, 0), (14, 0), (15, 0), (16, 0), (17, 0), (18, 0), (20, 0), (21, 0), (22, 0)]
/-- rows that are the same -/
def Keep (rs : List (Nat × Nat)) (S S' : St) : Prop := ∀ q ∈ rs, S' q.1 q.2 = S q.1 q.2
theorem Same.keep {ex rs : List (Nat × Nat)} {S S' : St} (h : Same ex S S') (hd : ∀ q ∈ rs, q ∉ ex) : Keep rs S S' := fun q hq => h q.1 q.2 (hd q hq)
theorem Keep.tr {rs : List (Nat × Nat)} {S S1 S2 : St} (h1 : Keep rs S S1) (h2 : Keep rs S1 S2) : Keep rs S S2 := fun q hq => (h2 q hq).trans (h1 q hq)
theorem Keep.at {rs : List (Nat × Nat)} {S S' : St} (h : Keep rs S S') (k i : Nat) (hm : (k, i) ∈ rs) : S' k i = S k i := h (k, i) hm
theorem PnC.keep {N : Nd} {n m : Nat} {ou : Nat → Nat} {S S' : St} (h : PnC N n m ou S) (hk : Keep rowsN S S') : PnC N n m ou S' := by
  obtain ⟨⟨a1, a2, a3, a4, a5, a6⟩, b1, b2, b3⟩ := h
  have r := fun k => hk.at k 0
  refine ⟨⟨?_, ?_, ?_, ?_, ?_, ?_, ?_⟩, ?_, ?_, ?_⟩
  · rw [r 2 (by decide)]; exact a1
  · rw [r 2 (by decide)]; exact a2
  · rw [r 2 (by decide)]; exact a3
  · intro k hk2
    unfold rowC
    rw [r 15 (by decide), r 16 (by decide), r 17 (by decide), r 18 (by decide), r 21 (by decide), r 22 (by decide)]
    exact a4 k hk2
  · rw [r 20 (by decide)]; exact a5
  · rw [r 1 (by decide)]; exact a6.1
  · rw [r 9 (by decide), r 10 (by decide), r 11 (by decide)]; exact a6.2
  · unfold EM
    rw [r 12 (by decide), r 13 (by decide), r 14 (by decide)]; exact b1
  · rw [r 1 (by decide)]; exact b2
  · rw [r 1 (by decide)]; exact b3
/-- mark() on a net -/
theorem n_mark {N : Nd} {n m : Nat} {ou : Nat → Nat} {S : St} (hw : WfN N n m ou) (h : Pn0 N n m ou S) : ∃ S', f_X7_mark S = some S' ∧ PnC N n m ou S' ∧ Same [(12, 0), (13, 0), (14, 0), (1, 0)] S S' := by
  obtain ⟨hn, hm, hN, hou⟩ := hw
  obtain ⟨a1, a2, a3, a4, a5, a6⟩ := h
  obtain ⟨w1, w2, w3⟩ := bld_ok hN (k := n) (Nat.le_refl n)
  have hO : OV m (bld N n).1.1 (vos N n ou) S := ⟨a2, hm, by omega, fun o ho => ⟨w3 _ (hou o ho), ou o, by have := hou o ho; omega, a5 o ho, by rw [(a4 _ (hou o ho)).2.2.2]; unfold vos; rw [bld_vo N (hou o ho)]⟩⟩
  obtain ⟨S', b1, b2, b3, b4, b5, b6⟩ := c_mark w1 a6 hO
  have r := fun k (h : (k, 0) ∉ [(12, 0), (13, 0), (14, 0), (1, 0)]) => b2 k 0 h
  refine ⟨S', b1, ⟨⟨?_, ?_, ?_, ?_, ?_, b4, ?_⟩, b3, b5, b6⟩, b2⟩
  · rw [r 2 (by decide)]; exact a1
  · rw [r 2 (by decide)]; exact a2
  · rw [r 2 (by decide)]; exact a3
  · intro k hk2
    unfold rowC
    rw [r 15 (by decide), r 16 (by decide), r 17 (by decide), r 18 (by decide), r 21 (by decide), r 22 (by decide)]
    exact a4 k hk2
  · rw [r 20 (by decide)]; exact a5
  · rw [r 9 (by decide), r 10 (by decide), r 11 (by decide)]; exact a6.2
/-- the reference's net -/
def PnM (N : Nd) (n m : Nat) (ou : Nat → Nat) (T : St) : Prop := NM N n T ∧ T 0 0 5 = nI m ∧ (∀ o, o < m → T 5 0 o = nI (ou o)) ∧ MG (bld N n).1 T ∧ (∀ j, j < n → T 11 0 j = nI ((bld N n).2 j)) ∧ EM (bld N n).1 m (vos N n ou) T
def rowsM : List (Nat × Nat) := [(1, 0), (2, 0), (3, 0), (4, 0), (5, 0), (8, 0), (9, 0), (10, 0), (11, 0), (12, 0), (13, 0), (14, 0)]
/-- the reference's numbers of the first object that are the same -/
def KeepZ (js : List Nat) (T T' : St) : Prop := ∀ j ∈ js, T' 0 0 j = T 0 0 j
theorem PnM.keep {N : Nd} {n m : Nat} {ou : Nat → Nat} {T T' : St} (h : PnM N n m ou T) (hk : Keep rowsM T T') (hz : KeepZ [0, 5, 11] T T') : PnM N n m ou T' := by
  obtain ⟨⟨a0, a1⟩, a2, a3, ⟨a4, a4'⟩, a5, a6⟩ := h
  have r := fun k => hk.at k 0
  refine ⟨⟨?_, ?_⟩, ?_, ?_, ⟨?_, ?_⟩, ?_, ?_⟩
  · rw [hz 0 (by decide)]; exact a0
  · rw [r 1 (by decide), r 2 (by decide), r 3 (by decide), r 4 (by decide)]; exact a1
  · rw [hz 5 (by decide)]; exact a2
  · rw [r 5 (by decide)]; exact a3
  · rw [hz 11 (by decide)]; exact a4
  · rw [r 8 (by decide), r 9 (by decide), r 10 (by decide)]; exact a4'
  · rw [r 11 (by decide)]; exact a5
  · unfold EM
    rw [r 12 (by decide), r 13 (by decide), r 14 (by decide)]; exact a6
theorem n_make {N : Nd} {n m : Nat} {ou : Nat → Nat} {T : St} (hw : WfN N n m ou) (hM : NM N n T) (h5 : T 0 0 5 = nI m) (hou : ∀ o, o < m → T 5 0 o = nI (ou o)) : ∃ T', f_X9_make T = some T' ∧ PnM N n m ou T' ∧ FrM2 T T' := by
  obtain ⟨hn, hm, hN, hoo⟩ := hw
  obtain ⟨T', a1, a2, a3, a4, a5⟩ := m_make hn hN hM hm h5 (fun o ho => ⟨hoo o ho, hou o ho⟩)
  refine ⟨T', a1, ⟨⟨?_, ?_⟩, ?_, ?_, a2, a3, a4⟩, a5⟩
  · rw [a5.2 0 (by decide)]; exact hM.1
  · rw [a5.1 1 0 (by decide), a5.1 2 0 (by decide), a5.1 3 0 (by decide), a5.1 4 0 (by decide)]; exact hM.2
  · rw [a5.2 5 (by decide)]; exact h5
  · rw [a5.1 5 0 (by decide)]; exact hou
/-- THE HISTORY, the latest first: 0 a node, 1 an output, 2 a cell, 3 + d: cell d dropped -/
def HS : List Nat → (Nat → Int32) → Prop
  | [], _ => True
  | x :: r, R => R r.length = nI x ∧ HS r R
theorem HS.cg : ∀ {L : List Nat} {R R' : Nat → Int32}, HS L R → (∀ j, j < L.length → R' j = R j) → HS L R'
  | [], _, _, _, _ => trivial
  | x :: r, _, _, h, hj => ⟨by rw [hj _ (by simp)]; exact h.1, h.2.cg (fun j q => hj j (by simp; omega))⟩
def HM : List Nat → (Nat → Int32) → (Nat → Int32) → Prop
  | [], _, _ => True
  | x :: r, A, B => (A r.length = if x < 3 then nI x else 3) ∧ (3 ≤ x → B r.length = nI (x - 3)) ∧ HM r A B
theorem HM.cg : ∀ {L : List Nat} {A B A' B' : Nat → Int32}, HM L A B → (∀ j, j < L.length → A' j = A j ∧ B' j = B j) → HM L A' B'
  | [], _, _, _, _, _, _ => trivial
  | x :: r, _, _, _, _, h, hj => ⟨by rw [(hj _ (by simp)).1]; exact h.1, by rw [(hj _ (by simp)).2]; exact h.2.1, h.2.2.cg (fun j q => hj j (by simp; omega))⟩
def PhC (L : List Nat) (S : St) : Prop := S 7 0 1 = nI L.length ∧ HS L (S 35 0)
def PhM (L : List Nat) (T : St) : Prop := T 0 0 7 = nI L.length ∧ HM L (T 6 0) (T 7 0)
theorem PhC.keep {L : List Nat} {S S' : St} (h : PhC L S) (hk : Keep [(7, 0), (35, 0)] S S') : PhC L S' := by
  refine ⟨?_, ?_⟩
  · rw [hk.at 7 0 (by decide)]; exact h.1
  · rw [hk.at 35 0 (by decide)]; exact h.2
theorem PhM.keep {L : List Nat} {T T' : St} (h : PhM L T) (hk : Keep [(6, 0), (7, 0)] T T') (hz : KeepZ [7] T T') : PhM L T' := by
  refine ⟨?_, ?_⟩
  · rw [hz 7 (by decide)]; exact h.1
  · rw [hk.at 6 0 (by decide), hk.at 7 0 (by decide)]; exact h.2
theorem c_hadd {L : List Nat} {S : St} {x : Nat} (h : PhC L S) (hl : L.length < 88) : ∃ S', f_X2_add (nI x) S = some S' ∧ PhC (x :: L) S' ∧ Same [(7, 0), (35, 0)] S S' := by
  unfold f_X2_add j_X2_add_29
  rw [h.1, if_neg (show ¬ (88 : Int32) ≤ nI L.length from nI_ge (b := 88) hl (by decide))]
  simp only [ix_nI hl (by decide), gd, lt_, nI_clamp (show L.length < 2 ^ 31 by omega), put_o (show ((7 : Nat) == 35 && (0 : Nat) == 0) = false from rfl), h.1, nI_1]
  refine ⟨_, rfl, ⟨?_, ?_, ?_⟩, (Same.rf.put (by decide)).put (by decide)⟩
  · rw [put_self]; rfl
  · rw [put_o rfl, put_self]
  · rw [put_o rfl]
    exact h.2.cg (fun j hj => put_j (by omega))
theorem c_note {L : List Nat} {S : St} {x : Nat} (h : PhC L S) (hl : L.length < 88) : ∃ S', f_X8_noteChange (nI x) S = some S' ∧ PhC (x :: L) S' ∧ S' 0 0 8 = 0 ∧ Same [(7, 0), (35, 0), (0, 0)] S S' := by
  obtain ⟨S1, a1, a2, a3⟩ := c_hadd (x := x) h hl
  unfold f_X8_noteChange
  rw [bv_e a1]
  refine ⟨_, rfl, a2.keep (fun q hq => ?_), put_self _ _ _ _ _, (a3.mono (by decide)).put (by decide)⟩
  have : q = (7, 0) ∨ q = (35, 0) := by simpa using hq
  rcases this with rfl | rfl <;> exact put_o rfl
theorem m_did {L : List Nat} {T : St} {x : Nat} {a b : Int32} (h : PhM L T) (hl : L.length < 88) (ha : a = if x < 3 then nI x else 3) (hb : 3 ≤ x → b = nI (x - 3)) : ∃ T', f_X9_did a b T = some T' ∧ PhM (x :: L) T' ∧ T' 0 0 10 = 0 ∧ Same [(6, 0), (7, 0), (0, 0)] T T' ∧ ∀ j, j ≠ 7 → j ≠ 10 → T' 0 0 j = T 0 0 j := by
  unfold f_X9_did
  simp only [h.1, ix_nI (show L.length < 4200 by omega) (by decide), gd, lt_, nI_clamp (show L.length < 2 ^ 31 by omega), put_o (show ((0 : Nat) == 6 && (0 : Nat) == 0) = false from rfl), put_o (show ((0 : Nat) == 7 && (0 : Nat) == 0) = false from rfl), nI_1]
  refine ⟨_, rfl, ⟨?_, ?_, ?_, ?_⟩, put_self _ _ _ _ _, (((Same.rf.put (by decide)).put (by decide)).put (by decide)).put (by decide), fun j h1 h2 => ?_⟩
  · rw [put_j (by decide), put_self]; rfl
  · rw [put_o rfl, put_o rfl, put_o rfl, put_self]; exact ha
  · rw [put_o rfl, put_o rfl, put_self]; exact hb
  · exact h.2.cg (fun j hj => ⟨by simp [put_at, show j ≠ L.length by omega], by simp [put_at, show j ≠ L.length by omega]⟩)
  · rw [put_j h2, put_j h1, put_o rfl, put_o rfl]
