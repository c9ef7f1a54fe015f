/-! newNode, input, gate, output of the reference -/
theorem in1 {j k : Nat} (h : j ∈ [k]) : j = k := by simpa using h
def exM : List (Nat × Nat) := [(0, 0), (1, 0), (2, 0), (3, 0), (4, 0), (5, 0), (6, 0), (7, 0), (8, 0), (9, 0), (10, 0), (11, 0), (12, 0), (13, 0), (14, 0)]
/-- the numbers of the first object that a change of the net leaves -/
def KzN (T T' : St) : Prop := ∀ j, j ≠ 0 → j ≠ 5 → j ≠ 7 → j ≠ 10 → j ≠ 11 → T' 0 0 j = T 0 0 j
theorem M_newNode {N : Nd} {n m : Nat} {ou : Nat → Nat} {L : List Nat} {T : St} {q : Nat × Nat × Nat × Nat} {x y z w : Int32} (hw : WfN N n m ou) (hP : PnM N n m ou T) (hL : PhM L T) (hl : L.length < 88) (hn : n < 40) (hq : okq n q) (ex : x = if q.1 = 7 then -1 else nI q.1) (ey : q.1 ≠ 7 → y = nI q.2.1) (ez : q.1 ≠ 7 → q.1 ≠ 0 → z = nI q.2.2.1) (ew : q.1 = 6 → w = nI q.2.2.2) : ∃ T', f_X9_newNode x y z w T = some (nI n, T') ∧ PnM (addN N n q) (n + 1) m ou T' ∧ PhM (0 :: L) T' ∧ T' 0 0 10 = 0 ∧ Same exM T T' ∧ KzN T T' := by
  have hP0 := hP
  obtain ⟨⟨a0, a1⟩, a2, a3, a4, a5, a6⟩ := hP0
  generalize hT1 : put (put (put (put (put T 1 0 n x) 2 0 n y) 3 0 n z) 4 0 n w) 0 0 0 (nI (n + 1)) = T1
  have hs1 : Same [(0, 0), (1, 0), (2, 0), (3, 0), (4, 0)] T T1 := by
    rw [← hT1]
    exact ((((Same.rf.put (by decide)).put (by decide)).put (by decide)).put (by decide)).put (by decide)
  have z1 : ∀ j, j ≠ 0 → T1 0 0 j = T 0 0 j := fun j hj => by rw [← hT1]; simp [put_at, hj]
  obtain ⟨T2, b1, b2, b3, b4, b5⟩ := m_did (x := 0) (a := 0) (b := 0) (hL.keep (hs1.keep (by decide)) (fun j hj => z1 j (by rw [in1 hj]; decide))) hl rfl (fun h => absurd h (by decide))
  have hM2 : NM (addN N n q) (n + 1) T2 := by
    refine ⟨?_, fun k hk => ?_⟩
    · rw [b5 0 (by decide) (by decide), ← hT1, put_self]
    · rw [b4 1 0 (by decide), b4 2 0 (by decide), b4 3 0 (by decide), b4 4 0 (by decide), ← hT1]
      by_cases e : k = n
      · subst e
        rw [addN_at]
        simp only [put_at]
        simp
        exact ⟨ex, ey, ez, ew⟩
      · rw [addN_lt (show k < n by omega)]
        simp only [put_at]
        simp [e]
        exact a1 k (by omega)
  obtain ⟨T3, c1, c2, c3⟩ := n_make (WfN_add hw hn hq) hM2 (by rw [b5 5 (by decide) (by decide), z1 5 (by decide)]; exact a2) (by rw [b4 5 0 (by decide), hs1 5 0 (by decide)]; exact a3)
  refine ⟨T3, ?_, c2, ?_, ?_, ((hs1.mono (by decide)).tr (b4.mono (by decide))).tr (c3.1.mono (by decide)), fun j h0 h5 h7 h10 h11 => ?_⟩
  · unfold f_X9_newNode
    have h40 : ¬ T 0 0 0 = 40 := by rw [a0]; exact fun q => by have := (nI_eq (a := n) (b := 40) (by omega) (by decide)).mp q; omega
    rw [if_neg h40]
    simp only [lt_, a0, ix_nI hn (by decide), gd, nI_clamp (show n < 2 ^ 31 by omega), put_o (show ((0 : Nat) == 1 && (0 : Nat) == 0) = false from rfl), put_o (show ((0 : Nat) == 2 && (0 : Nat) == 0) = false from rfl), put_o (show ((0 : Nat) == 3 && (0 : Nat) == 0) = false from rfl), put_o (show ((0 : Nat) == 4 && (0 : Nat) == 0) = false from rfl), nI_1, hT1]
    rw [bv_e b1, bv_e c1, c2.1.1, nI_pred]
  · exact b2.keep (c3.1.keep (by decide)) (fun j hj => c3.2 j (by rw [in1 hj]; decide))
  · rw [c3.2 10 (by decide)]; exact b3
  · rw [c3.2 j h11, b5 j h7 h10, z1 j h0]
theorem M_input {N : Nd} {n m : Nat} {ou : Nat → Nat} {L : List Nat} {T : St} (hw : WfN N n m ou) (hP : PnM N n m ou T) (hL : PhM L T) (hl : L.length < 88) (hn : n < 40) : ∃ T', f_X9_input T = some (nI n, T') ∧ PnM (addN N n (7, 0, 0, 0)) (n + 1) m ou T' ∧ PhM (0 :: L) T' ∧ T' 0 0 10 = 0 ∧ Same exM T T' ∧ KzN T T' := by
  obtain ⟨T', a1, a2⟩ := M_newNode (q := (7, 0, 0, 0)) (x := -1) (y := 0) (z := 0) (w := 0) hw hP hL hl hn ⟨by decide, fun h => absurd rfl h⟩ rfl (fun h => absurd rfl h) (fun h => absurd rfl h) (fun h => absurd h (by decide))
  refine ⟨T', ?_, a2⟩
  unfold f_X9_input
  rw [bi_e a1]
theorem M_new_full {T : St} (h : T 0 0 0 = nI 40) (x y z w : Int32) : f_X9_newNode x y z w T = some (-3, T) := by
  unfold f_X9_newNode
  rw [h, if_pos (show nI 40 = 40 from rfl)]
theorem M_gate_bad {n : Nat} (hn : n ≤ 40) {T : St} (h : T 0 0 0 = nI n) {a0 a1 a2 a3 : Int32} (hb : okG n a0 a1 a2 a3 = false) : f_X9_gate a0 a1 a2 a3 T = some (-1, T) := by
  have e7 : f_X9_in a0.toInt64 0 6 T = some (b01 (inR a0 7), T) := by
    rw [f_in]
    congr 3
    unfold inR
    rw [i64_of]
    exact decide_eq_decide.mpr (by
      have h1 : (0 : Int64).toInt = 0 := by decide
      have h2 : (6 : Int64).toInt = 6 := by decide
      rw [h1, h2]; omega)
  unfold f_X9_gate j_X9_gate_32 j_X9_gate_51 j_X9_gate_52 j_X9_gate_72
  simp only [bi_e e7, bi_e (m_isNode hn h a1), bi_e (m_isNode hn h a2), bi_e (m_isNode hn h a3), b01_0, if_true]
  unfold okG at hb
  by_cases h1 : inR a0 7 = false
  · rw [if_pos h1]
  · rw [if_neg h1]
    have h1 : inR a0 7 = true := by simpa using h1
    obtain ⟨k, hk, e0⟩ := inR_t h1 (by decide)
    by_cases h2 : inR a1 n = false
    · rw [if_pos h2]
    · rw [if_neg h2]
      have h2 : inR a1 n = true := by simpa using h2
      have h6 : (a0 < 6) = (k < 6) := by rw [e0]; exact propext (nI_ltI (b := 6) (by omega) (by decide))
      have h06 : (a0 == 6) = decide (k = 6) := by
        rw [e0]
        by_cases z : k = 6
        · subst z; rfl
        · have : ¬ nI k = 6 := fun q => z ((nI_eq (b := 6) (by omega) (by decide)).mp q)
          simp [this, z]
      rw [h1, h2, Bool.true_and, Bool.true_and, h06] at hb
      by_cases h3 : a0 = 0
      · rw [if_pos h3]
        have hk0 : k = 0 := by rw [e0] at h3; exact (nI_eq (b := 0) (by omega) (by decide)).mp h3
        subst hk0
        rw [h3] at hb
        simp at hb
      · rw [if_neg h3]
        by_cases h4 : inR a2 n = false
        · rw [if_pos h4]
        · rw [if_neg h4]
          have h4 : inR a2 n = true := by simpa using h4
          rw [h4] at hb
          simp only [Bool.or_true, Bool.true_and] at hb
          by_cases h5 : k = 6
          · simp [h5] at hb
            rw [if_neg (by rw [h6]; omega), if_pos hb]
          · simp [h5] at hb
theorem M_gate_good {n : Nat} (hn : n ≤ 40) {T : St} (h : T 0 0 0 = nI n) {a0 a1 a2 a3 : Int32} (hb : okG n a0 a1 a2 a3 = true) : f_X9_gate a0 a1 a2 a3 T = f_X9_newNode a0 a1 a2 a3 T := by
  obtain ⟨k, a, b, c, hk, ha, hb2, hc, rfl, rfl, eb, -, ec, -⟩ := okG_t hn hb
  have e7 : f_X9_in (nI k).toInt64 0 6 T = some (1, T) := by
    rw [f_in, i64_of, nI_toInt (by omega)]
    have h1 : (0 : Int64).toInt = 0 := by decide
    have h2 : (6 : Int64).toInt = 6 := by decide
    rw [h1, h2, decide_eq_true (by omega)]
    rfl
  have n1 : ∀ x, x < n → f_X9_isNode (nI x) T = some (1, T) := fun x hx => by rw [m_isNode hn h, inR_nI (by omega), decide_eq_true hx]; rfl
  have h0 : (nI k = 0) = (k = 0) := nI_inj (b := 0) (by omega) (by decide)
  have h6 : (nI k < 6) = (k < 6) := propext (nI_ltI (b := 6) (by omega) (by decide))
  have h10 : ¬ (1 : Int32) = 0 := by decide
  have fin : j_X9_gate_47 T (nI k) (nI a) a2 a3 = f_X9_newNode (nI k) (nI a) a2 a3 T := by
    unfold j_X9_gate_47 j_X9_gate_52 j_X9_gate_72
    rw [if_neg h10]
    cases f_X9_newNode (nI k) (nI a) a2 a3 T with
    | none => rfl
    | some q => rfl
  have e32 : j_X9_gate_32 T (nI k) (nI a) a2 a3 = f_X9_newNode (nI k) (nI a) a2 a3 T := by
    unfold j_X9_gate_32
    by_cases z : k = 6
    · rw [if_neg (by rw [h6]; omega), ec z, bi_e (n1 c hc), if_neg h10, ← ec z]
      exact fin
    · rw [if_pos (by rw [h6]; omega)]
      exact fin
  unfold f_X9_gate
  rw [bi_e e7, if_neg h10, bi_e (n1 a ha), if_neg h10]
  by_cases z : k = 0
  · rw [if_pos (by rw [h0]; exact z)]
    exact e32
  · rw [if_neg (by rw [h0]; exact z), eb z, bi_e (n1 b hb2), if_neg h10, ← eb z]
    exact e32
theorem M_output_ok {N : Nd} {n m : Nat} {ou : Nat → Nat} {L : List Nat} {T : St} (hw : WfN N n m ou) (hP : PnM N n m ou T) (hL : PhM L T) (hl : L.length < 88) (hm : m < 8) {a : Nat} (ha : a < n) : ∃ T', f_X9_output (nI a) T = some (nI m, T') ∧ PnM N n (m + 1) (addO ou m a) T' ∧ PhM (1 :: L) T' ∧ T' 0 0 10 = 0 ∧ Same exM T T' ∧ KzN T T' := by
  have hP0 := hP
  have hn4 := hw.1
  obtain ⟨⟨a0, a1⟩, a2, a3, a4, a5, a6⟩ := hP0
  generalize hT1 : put (put T 5 0 m (nI a)) 0 0 5 (nI (m + 1)) = T1
  have hs1 : Same [(0, 0), (5, 0)] T T1 := by rw [← hT1]; exact (Same.rf.put (by decide)).put (by decide)
  have z1 : ∀ j, j ≠ 5 → T1 0 0 j = T 0 0 j := fun j hj => by rw [← hT1]; simp [put_at, hj]
  obtain ⟨T2, b1, b2, b3, b4, b5⟩ := m_did (x := 1) (a := 1) (b := 0) (hL.keep (hs1.keep (by decide)) (fun j hj => z1 j (by rw [in1 hj]; decide))) hl rfl (fun h => absurd h (by decide))
  have hM2 : NM N n T2 := by
    refine ⟨?_, ?_⟩
    · rw [b5 0 (by decide) (by decide), z1 0 (by decide)]; exact a0
    · rw [b4 1 0 (by decide), b4 2 0 (by decide), b4 3 0 (by decide), b4 4 0 (by decide), hs1 1 0 (by decide), hs1 2 0 (by decide), hs1 3 0 (by decide), hs1 4 0 (by decide)]
      exact a1
  have e5 : T2 0 0 5 = nI (m + 1) := by rw [b5 5 (by decide) (by decide), ← hT1, put_self]
  obtain ⟨T3, c1, c2, c3⟩ := n_make (WfN_out hw hm ha) hM2 e5 (fun o ho => by
    rw [b4 5 0 (by decide), ← hT1, put_o rfl, put_jj]
    unfold addO
    by_cases z : o = m
    · rw [if_pos z, if_pos z]
    · rw [if_neg z, if_neg z]; exact a3 o (by omega))
  refine ⟨T3, ?_, c2, ?_, ?_, ((hs1.mono (by decide)).tr (b4.mono (by decide))).tr (c3.1.mono (by decide)), fun j h0 h5 h7 h10 h11 => ?_⟩
  · unfold f_X9_output
    have h8 : ¬ T 0 0 5 = 8 := by rw [a2]; exact fun q => by have := (nI_eq (a := m) (b := 8) (by omega) (by decide)).mp q; omega
    rw [bi_e (m_isNode hn4 a0 _), if_neg (by rw [inR_nI (by omega)]; simp [b01, ha]), if_neg h8]
    simp only [lt_, a2, ix_nI hm (by decide), gd, nI_clamp (show m < 2 ^ 31 by omega), put_o (show ((0 : Nat) == 5 && (0 : Nat) == 0) = false from rfl), nI_1, hT1]
    rw [bv_e b1, bv_e c1, c2.2.1, nI_pred]
  · exact b2.keep (c3.1.keep (by decide)) (fun j hj => c3.2 j (by rw [in1 hj]; decide))
  · rw [c3.2 10 (by decide)]; exact b3
  · rw [c3.2 j h11, b5 j h7 h10, z1 j h5]
theorem M_output_no {n m : Nat} (hn : n ≤ 40) {T : St} (h : T 0 0 0 = nI n) (h5 : T 0 0 5 = nI m) (a : Int32) (hc : inR a n = false ∨ (8 ≤ m ∧ m ≤ 8)) : f_X9_output a T = some (if inR a n = false then -1 else -3, T) := by
  unfold f_X9_output
  rw [bi_e (m_isNode hn h _)]
  by_cases z : inR a n = false
  · rw [if_pos (by rw [z]; rfl), if_pos z]
  · have hm : m = 8 := hc.elim (fun q => absurd q z) (fun q => by omega)
    subst hm
    rw [if_neg (by rw [b01_0]; exact z), if_neg z, h5, if_pos (show nI 8 = 8 from rfl)]
