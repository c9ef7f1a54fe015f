/-! type() -/
def bytU (w : Int64) (k : Nat) : Int32 := (((w.toUInt64 >>> ((8 * nI k).toInt64.toUInt64 &&& Int64.toUInt64 63)).toInt64) &&& 255).toInt32
def bytS (w : Int64) (k : Nat) : Int32 := ((w >>> ((8 * nI k).toInt64 &&& 63)) &&& 255).toInt32
theorem sh_s : ∀ k, k < 8 → ((8 * nI k).toInt64 &&& 63).toBitVec.smod 64 = BitVec.ofNat 64 (8 * k) := by decide
theorem sh_u : ∀ k, k < 8 → ((8 * nI k).toInt64.toUInt64 &&& Int64.toUInt64 63).toBitVec % 64 = BitVec.ofNat 64 (8 * k) := by decide
theorem byt_eq (w : Int64) {k : Nat} (hk : k < 8) : bytU w k = bytS w k := by
  unfold bytU bytS
  congr 1
  apply Int64.toBitVec_inj.mp
  apply BitVec.eq_of_getLsbD_eq
  intro i hi
  have h255 : (255 : Int64).toBitVec = BitVec.ofNat 64 255 := by decide
  rw [Int64.toBitVec_and, Int64.toBitVec_and, h255, BitVec.getLsbD_and, BitVec.getLsbD_and]
  by_cases h8 : i < 8
  · congr 1
    rw [Int64.toBitVec_shiftRight, sh_s k hk]
    have e1 : ((w.toUInt64 >>> ((8 * nI k).toInt64.toUInt64 &&& Int64.toUInt64 63)).toInt64).toBitVec = w.toBitVec >>> (8 * k) := by
      show (w.toUInt64 >>> ((8 * nI k).toInt64.toUInt64 &&& Int64.toUInt64 63)).toBitVec = _
      rw [UInt64.toBitVec_shiftRight, sh_u k hk]
      show w.toBitVec >>> BitVec.ofNat 64 (8 * k) = _
      rw [BitVec.ushiftRight_eq']
      congr 1
      rw [BitVec.toNat_ofNat]
      omega
    rw [e1, BitVec.getLsbD_ushiftRight, BitVec.sshiftRight_eq', BitVec.getLsbD_sshiftRight, BitVec.toNat_ofNat, show 8 * k % 2 ^ 64 = 8 * k by omega]
    have h64 : ¬ 64 ≤ i := by omega
    have hlt : 8 * k + i < 64 := by omega
    simp [h64, hlt]
  · have hf : (BitVec.ofNat 64 255).getLsbD i = false := by
      rw [BitVec.getLsbD_ofNat]
      have : Nat.testBit 255 i = false := by
        apply Nat.testBit_lt_two_pow
        calc 255 < 2 ^ 8 := by decide
          _ ≤ 2 ^ i := Nat.pow_le_pow_right (by decide) (by omega)
      simp [this]
    rw [hf, Bool.and_false, Bool.and_false]
theorem c_appl {w : Int64} : ∀ (f k ln : Nat) (tp : Nat → Int32) (S : St), ln + k ≤ 60 → k ≤ 8 → k < f → TC ln tp S → ∃ S' tp', l_X6_append_5 f S w (nI k - 1) = some (nI (ln + k), S') ∧ TC (ln + k) tp' S' ∧ (∀ j, j < ln → tp' j = tp j) ∧ (∀ j, j < k → tp' (ln + j) = bytS w (k - 1 - j)) ∧ Same [(3, 0), (23, 0)] S S' ∧ ∀ j, j ≠ 1 → S' 3 0 j = S 3 0 j := by
  intro f
  induction f with
  | zero => intro k ln tp S _ _ h; exact absurd h (by omega)
  | succ f ih =>
    intro k ln tp S hl hk hf hT
    rw [show l_X6_append_5 (f + 1) = b_X6_append_5 (l_X6_append_5 f) from rfl]
    unfold b_X6_append_5
    match k with
    | 0 =>
      rw [if_pos (show nI 0 - 1 < 0 from by decide), hT.1]
      exact ⟨S, tp, rfl, hT, fun _ _ => rfl, fun j hj => absurd hj (by omega), Same.rf, fun _ _ => rfl⟩
    | k + 1 =>
      rw [nI_pred, if_neg (nI_pos (by omega)), hT.1, gd_t (ix_nI (show ln < 60 by omega) (by decide)), lt_, nI_clamp (show ln < 2 ^ 31 by omega), lt_, put_o rfl, hT.1, nI_1, lt_]
      have eb : (((w.toUInt64 >>> ((8 * nI k).toInt64.toUInt64 &&& Int64.toUInt64 63)).toInt64) &&& 255).toInt32 = bytS w k := byt_eq w (by omega)
      rw [eb]
      have en : nI k + -1 = nI k - 1 := (Int32.sub_eq_add_neg _ _).symm
      rw [en]
      have T1 : TC (ln + 1) (fun i => if i = ln then bytS w k else tp i) (put (put S 23 0 ln (bytS w k)) 3 0 1 (nI (ln + 1))) := ⟨put_self _ _ _ _ _, fun j hj => by
        rw [put_o rfl, put_jj]
        by_cases z : j = ln
        · rw [if_pos z]; simp [z]
        · rw [if_neg z, hT.2 j (by omega)]; simp [z]⟩
      obtain ⟨S', tp', a1, a2, a3, a4, a5, a6⟩ := ih k (ln + 1) _ _ (by omega) (by omega) (by omega) T1
      refine ⟨S', tp', by rw [a1, show ln + 1 + k = ln + (k + 1) by omega], by rw [show ln + (k + 1) = ln + 1 + k by omega]; exact a2, fun j hj => by rw [a3 j (by omega)]; simp [show j ≠ ln by omega], fun j hj => ?_, ((Same.rf.put (by decide)).put (by decide)).tr a5, fun j hj => by rw [a6 j hj, put_j hj, put_o rfl]⟩
      by_cases z : j = 0
      · subst z
        rw [Nat.add_zero, a3 ln (by omega)]
        simp
      · have := a4 (j - 1) (by omega)
        rw [show ln + 1 + (j - 1) = ln + j by omega, show k - 1 - (j - 1) = k + 1 - 1 - j by omega] at this
        exact this
theorem m_appl {w : Int64} : ∀ (f k ln : Nat) (tp : Nat → Int32) (T : St), ln + k ≤ 60 → k ≤ 8 → k < f → TM ln tp T → ∃ T' tp', l_X9_type_33 f T w (nI k - 1) = some (nI (ln + k), T') ∧ TM (ln + k) tp' T' ∧ (∀ j, j < ln → tp' j = tp j) ∧ (∀ j, j < k → tp' (ln + j) = bytS w (k - 1 - j)) ∧ Same [(0, 0), (15, 0)] T T' ∧ ∀ j, j ≠ 20 → T' 0 0 j = T 0 0 j := by
  intro f
  induction f with
  | zero => intro k ln tp T _ _ h; exact absurd h (by omega)
  | succ f ih =>
    intro k ln tp T hl hk hf hT
    rw [show l_X9_type_33 (f + 1) = b_X9_type_33 (l_X9_type_33 f) from rfl]
    unfold b_X9_type_33
    match k with
    | 0 =>
      rw [if_pos (show nI 0 - 1 < 0 from by decide), hT.1]
      exact ⟨T, tp, rfl, hT, fun _ _ => rfl, fun j hj => absurd hj (by omega), Same.rf, fun _ _ => rfl⟩
    | k + 1 =>
      rw [nI_pred, if_neg (nI_pos (by omega)), hT.1, gd_t (ix_nI (show ln < 60 by omega) (by decide)), lt_, nI_clamp (show ln < 2 ^ 31 by omega), lt_, put_o rfl, hT.1, nI_1, lt_]
      have eb : ((w >>> ((8 * nI k).toInt64 &&& 63)) &&& 255).toInt32 = bytS w k := rfl
      rw [eb]
      have en : nI k + -1 = nI k - 1 := (Int32.sub_eq_add_neg _ _).symm
      rw [en]
      have T1 : TM (ln + 1) (fun i => if i = ln then bytS w k else tp i) (put (put T 15 0 ln (bytS w k)) 0 0 20 (nI (ln + 1))) := ⟨put_self _ _ _ _ _, fun j hj => by
        rw [put_o rfl, put_jj]
        by_cases z : j = ln
        · rw [if_pos z]; simp [z]
        · rw [if_neg z, hT.2 j (by omega)]; simp [z]⟩
      obtain ⟨T', tp', a1, a2, a3, a4, a5, a6⟩ := ih k (ln + 1) _ _ (by omega) (by omega) (by omega) T1
      refine ⟨T', tp', by rw [a1, show ln + 1 + k = ln + (k + 1) by omega], by rw [show ln + (k + 1) = ln + 1 + k by omega]; exact a2, fun j hj => by rw [a3 j (by omega)]; simp [show j ≠ ln by omega], fun j hj => ?_, ((Same.rf.put (by decide)).put (by decide)).tr a5, fun j hj => by rw [a6 j hj, put_j hj, put_o rfl]⟩
      by_cases z : j = 0
      · subst z
        rw [Nat.add_zero, a3 ln (by omega)]
        simp
      · have := a4 (j - 1) (by omega)
        rw [show ln + 1 + (j - 1) = ln + j by omega, show k - 1 - (j - 1) = k + 1 - 1 - j by omega] at this
        exact this
/-- the tape behind n bytes of w -/
def typ (tp : Nat → Int32) (ln : Nat) (w : Int64) (n : Nat) : Nat → Int32 := fun j => if j < ln then tp j else bytS w (n - 1 - (j - ln))
theorem in18 (n : Int32) : decide ((1 : Int64).toInt ≤ n.toInt64.toInt ∧ n.toInt64.toInt ≤ (8 : Int64).toInt) = decide (1 ≤ n.toInt ∧ n.toInt ≤ 8) := by
  rw [i64_of, show (1 : Int64).toInt = 1 from by decide, show (8 : Int64).toInt = 8 from by decide]
theorem X_type {ln : Nat} (hl : ln ≤ 60) {tp : Nat → Int32} {S : St} (hT : TC ln tp S) (w : Int64) (n : Int32) : (¬ (1 ≤ n.toInt ∧ n.toInt ≤ 8) → f_X8_type w n S = some (-1, S)) ∧ (∀ k, k ≤ 8 → 1 ≤ k → n = nI k → (60 < ln + k → f_X8_type w n S = some (-3, S)) ∧ (ln + k ≤ 60 → ∃ S', f_X8_type w n S = some (nI (ln + k), S') ∧ TC (ln + k) (typ tp ln w k) S' ∧ Same [(3, 0), (23, 0)] S S' ∧ ∀ j, j ≠ 1 → S' 3 0 j = S 3 0 j)) := by
  unfold f_X8_type j_X8_type_11
  refine ⟨fun h => ?_, fun k h8 h1 e => ?_⟩
  · by_cases a : n < 1
    · rw [if_pos a]
    · have a8 : ¬ n ≤ 8 := by
        rw [Int32.lt_iff_toInt_lt, show (1 : Int32).toInt = 1 from by decide] at a
        rw [Int32.le_iff_toInt_le, show (8 : Int32).toInt = 8 from by decide]
        omega
      rw [if_neg a, if_neg a8]
  · subst e
    rw [if_neg (show ¬ nI k < 1 from nI_nlt (b := 1) h1 (by omega)), if_pos (show nI k ≤ 8 from nI_le (b := 8) h8 (by decide)), hT.1, nI_add]
    refine ⟨fun h => ?_, fun h => ?_⟩
    · rw [if_neg (show ¬ nI (ln + k) ≤ 60 from nI_ge (a := 60) (b := ln + k) (by omega) (by omega))]
    · rw [if_pos (show nI (ln + k) ≤ 60 from nI_le (b := 60) h (by decide))]
      obtain ⟨S', tp', a1, a2, a3, a4, a5, a6⟩ := c_appl (w := w) 5000 k ln tp S h h8 (by omega) hT
      have ea : f_X6_append w (nI k) S = some (nI (ln + k), S') := a1
      rw [bi_e ea]
      refine ⟨S', rfl, ⟨a2.1, fun j hj => ?_⟩, a5, a6⟩
      rw [a2.2 j hj]
      unfold typ
      by_cases z : j < ln
      · rw [if_pos z]; exact a3 j z
      · rw [if_neg z]
        have := a4 (j - ln) (by omega)
        rw [show ln + (j - ln) = j by omega] at this
        exact this
theorem M_type {ln : Nat} (hl : ln ≤ 60) {tp : Nat → Int32} {T : St} (hT : TM ln tp T) (w : Int64) (n : Int32) : (¬ (1 ≤ n.toInt ∧ n.toInt ≤ 8) → f_X9_type w n T = some (-1, T)) ∧ (∀ k, k ≤ 8 → 1 ≤ k → n = nI k → (60 < ln + k → f_X9_type w n T = some (-3, T)) ∧ (ln + k ≤ 60 → ∃ T', f_X9_type w n T = some (nI (ln + k), T') ∧ TM (ln + k) (typ tp ln w k) T' ∧ Same [(0, 0), (15, 0)] T T' ∧ ∀ j, j ≠ 20 → T' 0 0 j = T 0 0 j)) := by
  unfold f_X9_type
  rw [bi_e (f_in _ _ _ _), in18]
  refine ⟨fun h => ?_, fun k h8 h1 e => ?_⟩
  · rw [decide_eq_false h, if_pos (show b01 false = 0 from rfl)]
  · subst e
    rw [decide_eq_true (by rw [nI_toInt (by omega)]; omega), if_neg (show ¬ b01 true = 0 from by decide), hT.1, nI_add]
    refine ⟨fun h => ?_, fun h => ?_⟩
    · rw [if_neg (show ¬ nI (ln + k) ≤ 60 from nI_ge (a := 60) (b := ln + k) (by omega) (by omega))]
    · rw [if_pos (show nI (ln + k) ≤ 60 from nI_le (b := 60) h (by decide))]
      obtain ⟨T', tp', a1, a2, a3, a4, a5, a6⟩ := m_appl (w := w) 5000 k ln tp T h h8 (by omega) hT
      refine ⟨T', a1, ⟨a2.1, fun j hj => ?_⟩, a5, a6⟩
      rw [a2.2 j hj]
      unfold typ
      by_cases z : j < ln
      · rw [if_pos z]; exact a3 j z
      · rw [if_neg z]
        have := a4 (j - ln) (by omega)
        rw [show ln + (j - ln) = j by omega] at this
        exact this
