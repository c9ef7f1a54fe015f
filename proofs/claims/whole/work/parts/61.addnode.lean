/-! input(), gate(), output() -/
theorem lgc (x y : Int64) : (lg_cmp x y < 0) = (x < y) ∧ (0 < lg_cmp x y) = (y < x) := by
  unfold lg_cmp
  by_cases h1 : x > y
  · have h2 : ¬ x < y := by rw [gt_iff_lt, Int64.lt_iff_toInt_lt] at h1; rw [Int64.lt_iff_toInt_lt]; omega
    have h3 : y < x := h1
    simp [h1, h2, h3]
  · by_cases h2 : x = y
    · subst h2
      have : ¬ x < x := by rw [Int64.lt_iff_toInt_lt]; omega
      simp [this]
    · have h3 : x < y := by
        rw [gt_iff_lt, Int64.lt_iff_toInt_lt] at h1
        rw [Int64.lt_iff_toInt_lt]
        have : x.toInt ≠ y.toInt := fun q => h2 (Int64.toInt_inj.mp q)
        omega
      have h4 : ¬ y < x := h1
      simp [h1, h2, h3, h4]
theorem f_in (a lo hi : Int64) (T : St) : f_X9_in a lo hi T = some (b01 (decide (lo.toInt ≤ a.toInt ∧ a.toInt ≤ hi.toInt)), T) := by
  unfold f_X9_in j_X9_in_17 j_X9_in_18
  simp only [(lgc a lo).1, (lgc a hi).2, Int64.lt_iff_toInt_lt, show bz 0 = true from by decide, show bz 1 = true from by decide, gd]
  by_cases h1 : a.toInt < lo.toInt
  · rw [if_pos h1]
    have : decide (lo.toInt ≤ a.toInt ∧ a.toInt ≤ hi.toInt) = false := decide_eq_false (by omega)
    rw [this]; rfl
  · rw [if_neg h1]
    by_cases h2 : hi.toInt < a.toInt
    · rw [if_pos h2]
      have : decide (lo.toInt ≤ a.toInt ∧ a.toInt ≤ hi.toInt) = false := decide_eq_false (by omega)
      rw [this]; rfl
    · rw [if_neg h2]
      have : decide (lo.toInt ≤ a.toInt ∧ a.toInt ≤ hi.toInt) = true := decide_eq_true (by omega)
      rw [this]; rfl
theorem i64_of (x : Int32) : x.toInt64.toInt = x.toInt := Int32.toInt_toInt64 x
theorem nI_m1_toInt {n : Nat} (h : n < 2 ^ 31) : (nI n - 1).toInt64.toInt = (n : Int) - 1 := by
  rw [i64_of]
  by_cases e : n = 0
  · subst e; decide
  · rw [nI_s1 (by omega), nI_toInt (by omega)]
    omega
/-- 'in' of a number below n -/
theorem f_in0 (x : Int32) {n : Nat} (h : n < 2 ^ 31) (T : St) : f_X9_in x.toInt64 0 ((nI n - 1).toInt64) T = some (b01 (inR x n), T) := by
  rw [f_in]
  congr 3
  unfold inR
  rw [i64_of, nI_m1_toInt h]
  exact decide_eq_decide.mpr (by
    have : (0 : Int64).toInt = 0 := by decide
    rw [this]; omega)
theorem m_isNode {n : Nat} (hn : n ≤ 40) {T : St} (h : T 0 0 0 = nI n) (x : Int32) : f_X9_isNode x T = some (b01 (inR x n), T) := by
  unfold f_X9_isNode
  rw [h, bi_e (f_in0 x (by omega) T)]
  simp only [bz_b01, gd]
theorem le_nI {x : Int32} {n : Nat} (hn : n < 2 ^ 31) : (nI n ≤ x) = ((n : Int) ≤ x.toInt) := by
  rw [Int32.le_iff_toInt_le, nI_toInt hn]
theorem lt_0I {x : Int32} : (x < 0) = (x.toInt < 0) := by
  rw [Int32.lt_iff_toInt_lt, Int32.toInt_zero]
theorem c_hasNode {n : Nat} (hn : n ≤ 40) {S : St} (h : S 2 0 8 = nI n) (x : Int32) : f_X5_hasNode x S = some (b01 (inR x n), S) := by
  unfold f_X5_hasNode j_X5_hasNode_16 j_X5_hasNode_17
  simp only [h, le_nI (show n < 2 ^ 31 by omega), lt_0I, show bz 0 = true from by decide, show bz 1 = true from by decide, gd]
  by_cases h1 : x.toInt < 0
  · rw [if_pos h1, show inR x n = false from decide_eq_false (by omega)]; rfl
  · rw [if_neg h1]
    by_cases h2 : (n : Int) ≤ x.toInt
    · rw [if_pos h2, show inR x n = false from decide_eq_false (by omega)]; rfl
    · rw [if_neg h2, show inR x n = true from decide_eq_true (by omega)]; rfl
def addN (N : Nd) (n : Nat) (q : Nat × Nat × Nat × Nat) : Nd := fun j => if j = n then q else N j
theorem addN_at (N : Nd) (n : Nat) (q : Nat × Nat × Nat × Nat) : addN N n q n = q := if_pos rfl
theorem addN_lt {N : Nd} {n k : Nat} {q : Nat × Nat × Nat × Nat} (h : k < n) : addN N n q k = N k := if_neg (by omega)
theorem addN_bld {N : Nd} {n k : Nat} {q : Nat × Nat × Nat × Nat} (h : k ≤ n) : bld (addN N n q) k = bld N k := bld_congr (fun j hj => addN_lt (by omega))
theorem addN_new (N : Nd) (n : Nat) (q : Nat × Nat × Nat × Nat) : (bld (addN N n q) (n + 1)).1 = (nstep (bld N n).1 (bld N n).2 q).1 ∧ (bld (addN N n q) (n + 1)).2 n = (nstep (bld N n).1 (bld N n).2 q).2 := by
  rw [bld, addN_bld (Nat.le_refl n), addN_at]
  exact ⟨rfl, if_pos rfl⟩
theorem ctB_cg {p q : Nat → Bool} : ∀ {n : Nat}, (∀ k, k < n → p k = q k) → ctB p n = ctB q n
  | 0, _ => rfl
  | n + 1, h => by rw [ctB, ctB, ctB_cg (fun k hk => h k (by omega)), h n (by omega)]
def okq (n : Nat) (q : Nat × Nat × Nat × Nat) : Prop := q.1 ≤ 7 ∧ (q.1 ≠ 7 → q.2.1 < n ∧ q.2.2.1 < n ∧ q.2.2.2 < n)
theorem WfN_add {N : Nd} {n m : Nat} {ou : Nat → Nat} {q : Nat × Nat × Nat × Nat} (hw : WfN N n m ou) (hn : n < 40) (hq : okq n q) : WfN (addN N n q) (n + 1) m ou := by
  refine ⟨by omega, hw.2.1, fun k hk => ?_, fun o ho => by have := hw.2.2.2 o ho; omega⟩
  by_cases e : k = n
  · subst e
    rw [addN_at]
    exact hq
  · rw [addN_lt (by omega)]
    exact hw.2.2.1 k (by omega)
theorem Pn0_add {N : Nd} {n m : Nat} {ou : Nat → Nat} {S S2 : St} {q : Nat × Nat × Nat × Nat} (hP : Pn0 N n m ou S) (hG : CG (nstep (bld N n).1 (bld N n).2 q).1 S2) (e8 : S2 2 0 8 = nI (n + 1)) (e10 : S2 2 0 10 = nI m) (e9 : S2 2 0 9 = nI (ctB (isInp N) n + if q.1 = 7 then 1 else 0))
    (r15 : ∀ k, S2 15 0 k = if k = n then nI q.1 else S 15 0 k) (r16 : ∀ k, k < n → S2 16 0 k = S 16 0 k ∧ S2 17 0 k = S 17 0 k ∧ S2 18 0 k = S 18 0 k) (r16n : q.1 ≠ 7 → S2 16 0 n = nI q.2.1 ∧ S2 17 0 n = nI q.2.2.1 ∧ S2 18 0 n = nI q.2.2.2) (r21 : ∀ k, S2 21 0 k = if k = n then nI (bld N n).1.1 else S 21 0 k) (r22 : ∀ k, S2 22 0 k = if k = n then nI (nstep (bld N n).1 (bld N n).2 q).2 else S 22 0 k) (r20 : S2 20 0 = S 20 0) : Pn0 (addN N n q) (n + 1) m ou S2 := by
  obtain ⟨a1, a2, a3, a4, a5, a6⟩ := hP
  refine ⟨e8, e10, ?_, fun k hk => ?_, by rw [r20]; exact a5, ?_⟩
  · rw [e9, ctB, ctB_cg (p := isInp (addN N n q)) (q := isInp N) (fun k hk => by unfold isInp; rw [addN_lt hk])]
    unfold isInp
    rw [addN_at]
    by_cases z : q.1 = 7 <;> simp [z]
  · by_cases z : k = n
    · subst z
      unfold rowC
      rw [addN_at, r15 k, if_pos rfl, r21 k, if_pos rfl, r22 k, if_pos rfl, addN_bld (Nat.le_refl k), (addN_new N k q).2]
      exact ⟨rfl, r16n, rfl, rfl⟩
    · have hk2 : k < n := by omega
      obtain ⟨b1, b2, b3⟩ := r16 k hk2
      unfold rowC
      rw [addN_lt hk2, r15 k, if_neg z, r21 k, if_neg z, r22 k, if_neg z, b1, b2, b3, addN_bld (by omega), addN_bld (by omega)]
      exact a4 k hk2
  · rw [(addN_new N n q).1]
    exact hG
/-- behind the row of a new node: mark and note -/
theorem c_noteNode {N : Nd} {n m : Nat} {ou : Nat → Nat} {L : List Nat} {S : St} {r : Int32} (hw : WfN N n m ou) (hP : Pn0 N n m ou S) (hL : PhC L S) (hl : L.length < 88) : ∃ S', f_X8_noteNode r S = some (r, S') ∧ PnC N n m ou S' ∧ PhC (0 :: L) S' ∧ S' 0 0 8 = 0 ∧ Same [(12, 0), (13, 0), (14, 0), (1, 0), (7, 0), (35, 0), (0, 0)] S S' := by
  obtain ⟨S1, a1, a2, a3⟩ := n_mark hw hP
  obtain ⟨S2, b1, b2, b3, b4⟩ := c_note (x := 0) (hL.keep (a3.keep (by decide))) hl
  refine ⟨S2, ?_, a2.keep (b4.keep (by decide)), b2, b3, (a3.mono (by decide)).tr (b4.mono (by decide))⟩
  unfold f_X8_noteNode
  have b1 : f_X8_noteChange 0 S1 = some S2 := b1
  rw [bv_e a1, bv_e b1]
theorem c_addNode {n : Nat} (hn : n < 40) {S : St} (h : S 2 0 8 = nI n) (x y z : Int32) : f_X5_addNode x y z S = some (nI n, put (put (put (put S 15 0 n x) 21 0 n y) 22 0 n z) 2 0 8 (nI (n + 1))) := by
  unfold f_X5_addNode
  simp only [h, lt_, ix_nI hn (by decide), gd, nI_clamp (show n < 2 ^ 31 by omega), put_o (show ((2 : Nat) == 15 && (0 : Nat) == 0) = false from rfl), put_o (show ((2 : Nat) == 21 && (0 : Nat) == 0) = false from rfl), put_o (show ((2 : Nat) == 22 && (0 : Nat) == 0) = false from rfl), nI_1]
def exN : List (Nat × Nat) := [(1, 0), (2, 0), (9, 0), (10, 0), (11, 0), (12, 0), (13, 0), (14, 0), (15, 0), (16, 0), (17, 0), (18, 0), (20, 0), (21, 0), (22, 0), (7, 0), (35, 0), (0, 0)]
theorem X_input {N : Nd} {n m : Nat} {ou : Nat → Nat} {L : List Nat} {S : St} (hw : WfN N n m ou) (hP : PnC N n m ou S) (hL : PhC L S) (hl : L.length < 88) (hn : n < 40) : ∃ S', f_X8_input S = some (nI n, S') ∧ PnC (addN N n (7, 0, 0, 0)) (n + 1) m ou S' ∧ PhC (0 :: L) S' ∧ S' 0 0 8 = 0 ∧ Same exN S S' := by
  have hq : okq n (7, 0, 0, 0) := ⟨by decide, fun h => absurd rfl h⟩
  obtain ⟨w1, w2, w3⟩ := bld_ok hw.2.2.1 (k := n) (Nat.le_refl n)
  have hP0 := hP.1
  obtain ⟨a1, a2, a3, a4, a5, a6⟩ := hP0
  obtain ⟨S1, e1, c1, f1⟩ := c_add0 a6 (show (bld N n).1.1 < 160 by omega)
  have k2 : S1 2 0 = S 2 0 := f1.1 2 0 (by decide)
  -- the rows behind addInput
  generalize hS2 : put (put (put (put (put S1 2 0 9 (S1 2 0 9 + 1)) 15 0 n 7) 21 0 n (nI (bld N n).1.1)) 22 0 n (nI (bld N n).1.1)) 2 0 8 (nI (n + 1)) = S2
  have e2 : f_X5_addInput (nI (bld N n).1.1) (nI (bld N n).1.1) S1 = some (nI n, S2) := by
    unfold f_X5_addInput
    simp only [lt_]
    rw [bi_e (c_addNode hn (by rw [put_j (by decide), k2]; exact a1) 7 _ _), hS2]
  have hs2 : Same [(2, 0), (15, 0), (21, 0), (22, 0)] S1 S2 := by
    rw [← hS2]
    exact ((((Same.rf.put (by decide)).put (by decide)).put (by decide)).put (by decide)).put (by decide)
  have P2 : Pn0 (addN N n (7, 0, 0, 0)) (n + 1) m ou S2 := by
    refine Pn0_add hP.1 ?_ ?_ ?_ ?_ ?_ ?_ (fun h => absurd rfl h) ?_ ?_ ?_
    · have : (nstep (bld N n).1 (bld N n).2 (7, 0, 0, 0)).1 = gadd (bld N n).1 (0, 0, 0) := by unfold nstep; rw [if_pos rfl]
      rw [this]
      exact ⟨by rw [hs2 1 0 (by decide)]; exact c1.1, by rw [hs2 9 0 (by decide), hs2 10 0 (by decide), hs2 11 0 (by decide)]; exact c1.2⟩
    · rw [← hS2, put_self]
    · rw [← hS2]; simp [put_at, k2, a2]
    · rw [← hS2]; simp [put_at, k2, a3, nI_1]
    · intro k
      rw [← hS2]
      simp [put_at, f1.1 15 0 (by decide)]
      rfl
    · intro k hk
      rw [hs2 16 0 (by decide), hs2 17 0 (by decide), hs2 18 0 (by decide), f1.1 16 0 (by decide), f1.1 17 0 (by decide), f1.1 18 0 (by decide)]
      exact ⟨rfl, rfl, rfl⟩
    · intro k
      rw [← hS2]
      simp [put_at, f1.1 21 0 (by decide)]
    · intro k
      have : (nstep (bld N n).1 (bld N n).2 (7, 0, 0, 0)).2 = (bld N n).1.1 := by unfold nstep; rw [if_pos rfl]
      rw [← hS2, this]
      simp [put_at, f1.1 22 0 (by decide)]
    · rw [hs2 20 0 (by decide), f1.1 20 0 (by decide)]
  have s02 : Same exN S S2 := (f1.1.mono (by decide)).tr (hs2.mono (by decide))
  obtain ⟨S3, d1, d2, d3, d4, d5⟩ := c_noteNode (r := nI n) (WfN_add hw hn hq) P2 (hL.keep (fun q hq => by
    have : q = (7, 0) ∨ q = (35, 0) := by simpa using hq
    rcases this with rfl | rfl
    · exact (hs2 7 0 (by decide)).trans (f1.1 7 0 (by decide))
    · exact (hs2 35 0 (by decide)).trans (f1.1 35 0 (by decide)))) hl
  refine ⟨S3, ?_, d2, d3, d4, s02.tr (d5.mono (by decide))⟩
  unfold f_X8_input
  rw [a1, if_pos (show nI n < 40 from nI_lt (b := 40) hn (by decide)), a6.1]
  simp only [lt_]
  rw [bi_e e1, bi_e e2, bi_e d1]
