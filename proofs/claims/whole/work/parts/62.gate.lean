/-! gate(), output() of the class; newNode, input, gate, output of the reference -/
def okG (n : Nat) (a0 a1 a2 a3 : Int32) : Bool := inR a0 7 && (inR a1 n && ((a0 == 0 || inR a2 n) && (!(a0 == 6) || inR a3 n)))
theorem X_gate_bad {n : Nat} (hn : n ≤ 40) {S : St} (h : S 2 0 8 = nI n) {a0 a1 a2 a3 : Int32} (hb : okG n a0 a1 a2 a3 = false) : f_X8_gate a0 a1 a2 a3 S = some (-1, S) := by
  unfold f_X8_gate j_X8_gate_38 j_X8_gate_21 j_X8_gate_56
  simp only [bi_e (c_hasNode hn h a1), bi_e (c_hasNode hn h a2), bi_e (c_hasNode hn h a3), b01_0]
  by_cases h1 : a0 < 0
  · rw [if_pos h1]
  · rw [if_neg h1]
    by_cases h2 : 6 < a0
    · rw [if_pos h2]
    · rw [if_neg h2]
      have h7 : inR a0 7 = true := by
        rw [lt_0I] at h1
        rw [Int32.lt_iff_toInt_lt, show (6 : Int32).toInt = 6 from by decide] at h2
        exact decide_eq_true (by omega)
      by_cases h3 : inR a1 n = false
      · rw [if_pos h3]
      · rw [if_neg h3]
        have h3 : inR a1 n = true := by simpa using h3
        by_cases h4 : a0 = 0
        · subst h4
          simp [okG, h7, h3] at hb
        · rw [if_neg h4]
          by_cases h5 : inR a2 n = false
          · rw [if_pos h5]
          · rw [if_neg h5]
            have h5 : inR a2 n = true := by simpa using h5
            by_cases h6 : a0 = 6
            · rw [if_pos h6]
              have : inR a3 n = false := by
                rw [h6] at hb
                simpa [okG, h3, h5, show inR 6 7 = true from by decide] using hb
              rw [if_pos this]
            · simp [okG, h7, h3, h5, h6] at hb
theorem okG_t {n : Nat} (hn : n ≤ 40) {a0 a1 a2 a3 : Int32} (h : okG n a0 a1 a2 a3 = true) : ∃ k a b c : Nat, k ≤ 6 ∧ a < n ∧ b < n ∧ c < n ∧ a0 = nI k ∧ a1 = nI a ∧ (k ≠ 0 → a2 = nI b) ∧ (k = 0 → b = 0) ∧ (k = 6 → a3 = nI c) ∧ (k ≠ 6 → c = 0) := by
  unfold okG at h
  rw [Bool.and_eq_true, Bool.and_eq_true, Bool.and_eq_true] at h
  obtain ⟨h1, h2, h3, h4⟩ := h
  obtain ⟨k, hk, e0⟩ := inR_t h1 (by decide)
  obtain ⟨a, ha, e1⟩ := inR_t h2 (by omega)
  have hb : ∃ b, b < n ∧ (k ≠ 0 → a2 = nI b) ∧ (k = 0 → b = 0) := by
    by_cases z : k = 0
    · exact ⟨0, by omega, fun y => absurd z y, fun _ => rfl⟩
    · have : (a0 == 0) = false := by
        rw [e0]
        simp only [beq_eq_false_iff_ne]
        exact nI_ne0 (by omega) (by omega)
      rw [this, Bool.false_or] at h3
      obtain ⟨b, hb, e2⟩ := inR_t h3 (by omega)
      exact ⟨b, hb, fun _ => e2, fun y => absurd y z⟩
  have hc : ∃ c, c < n ∧ (k = 6 → a3 = nI c) ∧ (k ≠ 6 → c = 0) := by
    by_cases z : k = 6
    · have : (a0 == 6) = true := by rw [e0, z]; decide
      rw [this] at h4
      simp only [Bool.not_true, Bool.false_or] at h4
      obtain ⟨c, hc, e3⟩ := inR_t h4 (by omega)
      exact ⟨c, hc, fun _ => e3, fun y => absurd z y⟩
    · exact ⟨0, by omega, fun y => absurd y z, fun _ => rfl⟩
  obtain ⟨b, b1, b2, b3⟩ := hb
  obtain ⟨c, c1, c2, c3⟩ := hc
  exact ⟨k, a, b, c, by omega, ha, b1, c1, e0, e1, b2, b3, c2, c3⟩
theorem X_gate_full {n : Nat} (hn : n = 40) {S : St} (h : S 2 0 8 = nI n) {a0 a1 a2 a3 : Int32} (hb : okG n a0 a1 a2 a3 = true) : f_X8_gate a0 a1 a2 a3 S = some (-3, S) := by
  obtain ⟨k, a, b, c, hk, ha, hb2, hc, rfl, rfl, eb, -, ec, -⟩ := okG_t (by omega) hb
  have hn4 : n ≤ 40 := by omega
  unfold f_X8_gate j_X8_gate_38 j_X8_gate_58
  rw [if_neg (nI_pos (by omega)), if_neg (show ¬ (6 : Int32) < nI k from nI_nlt (a := 6) (b := k) (by omega) (by decide))]
  rw [bi_e (c_hasNode hn4 h _), inR_nI (by omega), if_neg (by simp [b01, ha])]
  have e58 : (if S 2 0 8 < 40 then (if nI k = 0 then j_X8_gate_82 S (nI k) (nI a) a3 0 else j_X8_gate_82 S (nI k) (nI a) a3 a2) else some (-3, S)) = some (-3, S) := by
    rw [h, if_neg (show ¬ nI n < 40 from nI_nlt (b := 40) (by omega) (by omega))]
  have h0 : (nI k = 0) = (k = 0) := nI_inj (b := 0) (by omega) (by decide)
  have h6 : (nI k = 6) = (k = 6) := nI_inj (b := 6) (by omega) (by decide)
  have e38 : (if nI k = 6 then bi (f_X5_hasNode a3 S) (fun r_29 S_30 => if r_29 = 0 then j_X8_gate_56 S_30 else if S_30 2 0 8 < 40 then (if nI k = 0 then j_X8_gate_82 S_30 (nI k) (nI a) a3 0 else j_X8_gate_82 S_30 (nI k) (nI a) a3 a2) else some (-3, S_30)) else if S 2 0 8 < 40 then (if nI k = 0 then j_X8_gate_82 S (nI k) (nI a) a3 0 else j_X8_gate_82 S (nI k) (nI a) a3 a2) else some (-3, S)) = some (-3, S) := by
    by_cases z : k = 6
    · rw [if_pos (by rw [h6]; exact z), bi_e (c_hasNode hn4 h _), ec z, inR_nI (by omega), if_neg (by simp [b01, hc]), ← ec z]
      exact e58
    · rw [if_neg (by rw [h6]; exact z)]
      exact e58
  by_cases z : k = 0
  · rw [if_pos (by rw [h0]; exact z)]
    exact e38
  · rw [if_neg (by rw [h0]; exact z), bi_e (c_hasNode hn4 h _), eb z, inR_nI (by omega), if_neg (by simp [b01, hb2]), ← eb z]
    exact e38
theorem X_gate_ok {N : Nd} {n m : Nat} {ou : Nat → Nat} {L : List Nat} {S : St} (hw : WfN N n m ou) (hP : PnC N n m ou S) (hL : PhC L S) (hl : L.length < 88) (hn : n < 40) {k a b c : Nat} {a2 a3 : Int32} (hk : k ≤ 6) (ha : a < n) (hb : b < n) (hc : c < n) (eb : k ≠ 0 → a2 = nI b) (eb0 : k = 0 → b = 0) (ec : k = 6 → a3 = nI c) (ec0 : k ≠ 6 → c = 0) : ∃ S', f_X8_gate (nI k) (nI a) a2 a3 S = some (nI n, S') ∧ PnC (addN N n (k, a, b, c)) (n + 1) m ou S' ∧ PhC (0 :: L) S' ∧ S' 0 0 8 = 0 ∧ Same exN S S' := by
  have hq : okq n (k, a, b, c) := ⟨by show k ≤ 7; omega, fun _ => ⟨ha, hb, hc⟩⟩
  have hk7 : k ≠ 7 := by omega
  obtain ⟨w1, w2, w3⟩ := bld_ok hw.2.2.1 (k := n) (Nat.le_refl n)
  have hP0 := hP.1
  obtain ⟨a1, a2', a3', a4, a5, a6⟩ := hP0
  have h0 : (nI k = 0) = (k = 0) := nI_inj (b := 0) (by omega) (by decide)
  have h6 : (nI k = 6) = (k = 6) := nI_inj (b := 6) (by omega) (by decide)
  have rv : ∀ x, x < n → S 22 0 x = nI ((bld N n).2 x) := fun x hx => by rw [(a4 x hx).2.2.2, bld_vo N hx]
  have hst : nstep (bld N n).1 (bld N n).2 (k, a, b, c) = ggate k (bld N n).1 ((bld N n).2 a) ((bld N n).2 b) ((bld N n).2 c) := by unfold nstep; rw [if_neg hk7]
  obtain ⟨S1, e1, c1, f1⟩ := c_gate a6 w1 (show (bld N n).1.1 + 3 < 160 by omega) hk (w3 a ha) (w3 b hb) (w3 c hc)
  rw [← hst] at e1 c1
  have k2 : S1 2 0 = S 2 0 := f1.1 2 0 (by decide)
  generalize hS2 : put (put (put (put (put (put (put S1 15 0 n (nI k)) 21 0 n (nI (bld N n).1.1)) 22 0 n (nI (nstep (bld N n).1 (bld N n).2 (k, a, b, c)).2)) 2 0 8 (nI (n + 1))) 16 0 n (nI a)) 17 0 n (nI b)) 18 0 n (nI c) = S2
  have e2 : f_X5_addGate (nI k) (nI a) (nI b) (nI c) (nI (bld N n).1.1) (nI (nstep (bld N n).1 (bld N n).2 (k, a, b, c)).2) S1 = some (nI n, S2) := by
    unfold f_X5_addGate
    rw [bi_e (c_addNode hn (by rw [k2]; exact a1) _ _ _)]
    simp only [lt_, ix_nI hn (by decide), gd, nI_clamp (show n < 2 ^ 31 by omega), hS2]
  have hs2 : Same [(2, 0), (15, 0), (16, 0), (17, 0), (18, 0), (21, 0), (22, 0)] S1 S2 := by
    rw [← hS2]
    exact ((((((Same.rf.put (by decide)).put (by decide)).put (by decide)).put (by decide)).put (by decide)).put (by decide)).put (by decide)
  have P2 : Pn0 (addN N n (k, a, b, c)) (n + 1) m ou S2 := by
    refine Pn0_add hP.1 ?_ ?_ ?_ ?_ ?_ ?_ (fun _ => ?_) ?_ ?_ ?_
    · exact ⟨by rw [hs2 1 0 (by decide)]; exact c1.1, by rw [hs2 9 0 (by decide), hs2 10 0 (by decide), hs2 11 0 (by decide)]; exact c1.2⟩
    · rw [← hS2]; simp [put_at]
    · rw [← hS2]; simp [put_at, k2, a2']
    · rw [← hS2]; simp [put_at, k2, a3', hk7]
    · intro x
      rw [← hS2]
      simp [put_at, f1.1 15 0 (by decide)]
    · intro x hx
      rw [← hS2]
      simp [put_at, f1.1 16 0 (by decide), f1.1 17 0 (by decide), f1.1 18 0 (by decide), show x ≠ n by omega]
    · rw [← hS2]; simp [put_at]
    · intro x
      rw [← hS2]
      simp [put_at, f1.1 21 0 (by decide)]
    · intro x
      rw [← hS2]
      simp [put_at, f1.1 22 0 (by decide)]
    · rw [hs2 20 0 (by decide), f1.1 20 0 (by decide)]
  have s02 : Same exN S S2 := (f1.1.mono (by decide)).tr (hs2.mono (by decide))
  obtain ⟨S3, d1, d2, d3, d4, d5⟩ := c_noteNode (r := nI n) (WfN_add hw hn hq) P2 (hL.keep (fun q hq => by
    have : q = (7, 0) ∨ q = (35, 0) := by simpa using hq
    rcases this with rfl | rfl
    · exact (hs2 7 0 (by decide)).trans (f1.1 7 0 (by decide))
    · exact (hs2 35 0 (by decide)).trans (f1.1 35 0 (by decide)))) hl
  refine ⟨S3, ?_, d2, d3, d4, s02.tr (d5.mono (by decide))⟩
  have hn4 : n ≤ 40 := by omega
  -- the last block
  have e96 : j_X8_gate_96 S (nI k) (nI a) (nI b) (nI c) = some (nI n, S3) := by
    unfold j_X8_gate_96
    simp only [lt_, a6.1, ix_nI (show a < 40 by omega) (by decide), ix_nI (show b < 40 by omega) (by decide), ix_nI (show c < 40 by omega) (by decide), gd, nI_clamp (show a < 2 ^ 31 by omega), nI_clamp (show b < 2 ^ 31 by omega), nI_clamp (show c < 2 ^ 31 by omega), rv a ha, rv b hb, rv c hc]
    rw [bi_e e1, bi_e e2, bi_e d1]
  have e82 : j_X8_gate_82 S (nI k) (nI a) a3 (nI b) = some (nI n, S3) := by
    unfold j_X8_gate_82
    by_cases z : k = 6
    · rw [if_pos (by rw [h6]; exact z), ec z]; exact e96
    · rw [if_neg (by rw [h6]; exact z)]
      have := ec0 z
      subst this
      exact e96
  have e58 : j_X8_gate_58 S (nI k) (nI a) a2 a3 = some (nI n, S3) := by
    unfold j_X8_gate_58
    rw [a1, if_pos (show nI n < 40 from nI_lt (b := 40) hn (by decide))]
    by_cases z : k = 0
    · rw [if_pos (by rw [h0]; exact z)]
      have := eb0 z
      subst this
      exact e82
    · rw [if_neg (by rw [h0]; exact z), eb z]; exact e82
  have e38 : j_X8_gate_38 S (nI k) (nI a) a2 a3 = some (nI n, S3) := by
    unfold j_X8_gate_38
    by_cases z : k = 6
    · rw [if_pos (by rw [h6]; exact z), bi_e (c_hasNode hn4 a1 _), if_neg (by rw [ec z, inR_nI (by omega)]; simp [b01, hc])]
      exact e58
    · rw [if_neg (by rw [h6]; exact z)]
      exact e58
  unfold f_X8_gate
  rw [if_neg (nI_pos (by omega)), if_neg (show ¬ (6 : Int32) < nI k from nI_nlt (a := 6) (b := k) (by omega) (by decide)), bi_e (c_hasNode hn4 a1 _), if_neg (by rw [inR_nI (by omega)]; simp [b01, ha])]
  by_cases z : k = 0
  · rw [if_pos (by rw [h0]; exact z)]
    exact e38
  · rw [if_neg (by rw [h0]; exact z), bi_e (c_hasNode hn4 a1 _), if_neg (by rw [eb z, inR_nI (by omega)]; simp [b01, hb])]
    exact e38
def addO (ou : Nat → Nat) (m a : Nat) : Nat → Nat := fun o => if o = m then a else ou o
theorem WfN_out {N : Nd} {n m : Nat} {ou : Nat → Nat} {a : Nat} (hw : WfN N n m ou) (hm : m < 8) (ha : a < n) : WfN N n (m + 1) (addO ou m a) := by
  refine ⟨hw.1, by omega, hw.2.2.1, fun o ho => ?_⟩
  unfold addO
  by_cases z : o = m
  · rw [if_pos z]; exact ha
  · rw [if_neg z]; exact hw.2.2.2 o (by omega)
theorem X_output_ok {N : Nd} {n m : Nat} {ou : Nat → Nat} {L : List Nat} {S : St} (hw : WfN N n m ou) (hP : PnC N n m ou S) (hL : PhC L S) (hl : L.length < 88) (hm : m < 8) {a : Nat} (ha : a < n) : ∃ S', f_X8_output (nI a) S = some (nI m, S') ∧ PnC N n (m + 1) (addO ou m a) S' ∧ PhC (1 :: L) S' ∧ S' 0 0 8 = 0 ∧ Same exN S S' := by
  have hn4 := hw.1
  have hP0 := hP.1
  obtain ⟨a1, a2, a3, a4, a5, a6⟩ := hP0
  generalize hS1 : put (put S 20 0 m (nI a)) 2 0 10 (nI (m + 1)) = S1
  have hs1 : Same [(2, 0), (20, 0)] S S1 := by rw [← hS1]; exact (Same.rf.put (by decide)).put (by decide)
  have e1 : f_X5_addOutput (nI a) S = some (nI m, S1) := by
    unfold f_X5_addOutput
    simp only [lt_, a2, ix_nI hm (by decide), gd, nI_clamp (show m < 2 ^ 31 by omega), put_o (show ((2 : Nat) == 20 && (0 : Nat) == 0) = false from rfl), nI_1, hS1]
  have P1 : Pn0 N n (m + 1) (addO ou m a) S1 := by
    refine ⟨?_, ?_, ?_, fun k hk => ?_, fun o ho => ?_, ?_, ?_⟩
    · rw [← hS1, put_j (by decide), put_o rfl]; exact a1
    · rw [← hS1, put_self]
    · rw [← hS1, put_j (by decide), put_o rfl]; exact a3
    · unfold rowC
      rw [hs1 15 0 (by decide), hs1 16 0 (by decide), hs1 17 0 (by decide), hs1 18 0 (by decide), hs1 21 0 (by decide), hs1 22 0 (by decide)]
      exact a4 k hk
    · rw [← hS1, put_o rfl, put_jj]
      unfold addO
      by_cases z : o = m
      · rw [if_pos z, if_pos z]
      · rw [if_neg z, if_neg z]; exact a5 o (by omega)
    · rw [hs1 1 0 (by decide)]; exact a6.1
    · rw [hs1 9 0 (by decide), hs1 10 0 (by decide), hs1 11 0 (by decide)]; exact a6.2
  obtain ⟨S2, b1, b2, b3⟩ := n_mark (WfN_out hw hm ha) P1
  obtain ⟨S3, c1, c2, c3, c4⟩ := c_note (x := 1) ((hL.keep (hs1.keep (by decide))).keep (b3.keep (by decide))) hl
  refine ⟨S3, ?_, b2.keep (c4.keep (by decide)), c2, c3, ((hs1.mono (by decide)).tr (b3.mono (by decide))).tr (c4.mono (by decide))⟩
  unfold f_X8_output
  have c1 : f_X8_noteChange 1 S2 = some S3 := c1
  rw [bi_e (c_hasNode hn4 a1 _), if_neg (by rw [inR_nI (by omega)]; simp [b01, ha]), a2, if_pos (show nI m < 8 from nI_lt (b := 8) hm (by decide)), bi_e e1, bv_e b1, bv_e c1]
theorem X_output_no {n m : Nat} (hn : n ≤ 40) {S : St} (h : S 2 0 8 = nI n) (h10 : S 2 0 10 = nI m) (a : Int32) (hc : inR a n = false ∨ (8 ≤ m ∧ m ≤ 8)) : f_X8_output a S = some (if inR a n = false then -1 else -3, S) := by
  unfold f_X8_output
  rw [bi_e (c_hasNode hn h _)]
  by_cases z : inR a n = false
  · rw [if_pos (by rw [z]; rfl), if_pos z]
  · have hm : m = 8 := hc.elim (fun q => absurd q z) (fun q => by omega)
    subst hm
    rw [if_neg (by rw [b01_0]; exact z), if_neg z, h10, if_neg (by decide)]
