/-! run() of both sides -/
def rs (b : Int64) : Nat → Int64
  | 0 => b
  | i + 1 => ((rs b i).toUInt64 >>> ((1 : Int32).toInt64.toUInt64 &&& Int64.toUInt64 63)).toInt64
def bt (b : Int64) (i : Nat) : Int32 := ((b >>> ((nI i).toInt64 &&& 63)) &&& 1).toInt32
theorem sh_b : ∀ k, k < 64 → ((nI k).toInt64 &&& 63).toBitVec.smod 64 = BitVec.ofNat 64 k := by decide
theorem rs_bv (b : Int64) : ∀ i, (rs b i).toBitVec = b.toBitVec >>> i
  | 0 => by rw [rs]; simp
  | i + 1 => by
    show ((rs b i).toUInt64 >>> ((1 : Int32).toInt64.toUInt64 &&& Int64.toUInt64 63)).toBitVec = _
    rw [UInt64.toBitVec_shiftRight, show ((1 : Int32).toInt64.toUInt64 &&& Int64.toUInt64 63).toBitVec % 64 = BitVec.ofNat 64 1 from by decide]
    show (rs b i).toBitVec >>> BitVec.ofNat 64 1 = _
    rw [rs_bv b i, BitVec.ushiftRight_eq', BitVec.toNat_ofNat, show 1 % 2 ^ 64 = 1 from by decide, BitVec.shiftRight_add]
theorem rs_bt (b : Int64) {i : Nat} (hi : i < 64) : (rs b i &&& 1).toInt32 = bt b i := by
  unfold bt
  congr 1
  apply Int64.toBitVec_inj.mp
  apply BitVec.eq_of_getLsbD_eq
  intro j hj
  have h1 : (1 : Int64).toBitVec = BitVec.ofNat 64 1 := by decide
  rw [Int64.toBitVec_and, Int64.toBitVec_and, h1, BitVec.getLsbD_and, BitVec.getLsbD_and]
  by_cases h8 : j = 0
  · subst h8
    congr 1
    rw [Int64.toBitVec_shiftRight, sh_b i hi, rs_bv, BitVec.getLsbD_ushiftRight, BitVec.sshiftRight_eq', BitVec.getLsbD_sshiftRight, BitVec.toNat_ofNat, show i % 2 ^ 64 = i by omega]
    simp [hi]
  · have hf : (BitVec.ofNat 64 1).getLsbD j = false := by
      rw [BitVec.getLsbD_ofNat]
      cases j with
      | zero => exact absurd rfl h8
      | succ j => simp [Nat.testBit_succ]
    rw [hf, Bool.and_false, Bool.and_false]
def gtv (a0 a1 a2 a3 : Int32) : Int32 := if a0 = 0 then 1 - a1 else if a0 = 1 then a1 &&& a2 else if a0 = 2 then a1 ||| a2 else if a0 = 3 then a1 ^^^ a2 else if a0 = 4 then 1 - (a1 &&& a2) else if a0 = 5 then 1 - (a1 ||| a2) else if a1 = 1 then a2 else a3
theorem c_gtv (a0 a1 a2 a3 : Int32) (S : St) : f_X5_gateValue a0 a1 a2 a3 S = some (gtv a0 a1 a2 a3, S) := by
  unfold f_X5_gateValue j_X5_gateValue_78 gtv
  repeat' split
  all_goals rfl
theorem m_gtv (a0 a1 a2 a3 : Int32) (S : St) : f_X9_gateGives a0 a1 a2 a3 S = some (gtv a0 a1 a2 a3, S) := by
  unfold f_X9_gateGives j_X9_gateGives_78 gtv
  repeat' split
  all_goals rfl
theorem gtv_irr {k : Nat} (hk : k ≤ 6) {a b c b' c' : Int32} (hb : k ≠ 0 → b = b') (hc : k = 6 → c = c') : gtv (nI k) a b c = gtv (nI k) a b' c' := by
  match k, hk with
  | 0, _ => rfl
  | 1, _ => rw [hb (by decide)]; rfl
  | 2, _ => rw [hb (by decide)]; rfl
  | 3, _ => rw [hb (by decide)]; rfl
  | 4, _ => rw [hb (by decide)]; rfl
  | 5, _ => rw [hb (by decide)]; rfl
  | 6, _ => rw [hb (by decide), hc rfl]
/-- the value of a node, told by those of the nodes ahead -/
def rv1 (N : Nd) (b : Int64) (f : Nat → Int32) (k : Nat) : Int32 := if (N k).1 = 7 then bt b (ctB (isInp N) k) else gtv (nI (N k).1) (f (N k).2.1) (f (N k).2.2.1) (f (N k).2.2.2)
def rvF (N : Nd) (b : Int64) : Nat → Nat → Int32
  | 0 => fun _ => 0
  | k + 1 => fun j => if j = k then rv1 N b (rvF N b k) k else rvF N b k j
theorem rvF_at (N : Nd) (b : Int64) (k : Nat) : rvF N b (k + 1) k = rv1 N b (rvF N b k) k := if_pos rfl
theorem rvF_ne {N : Nd} {b : Int64} {k j : Nat} (h : j ≠ k) : rvF N b (k + 1) j = rvF N b k j := if_neg h
def orv (f : Nat → Int32) (ou : Nat → Nat) : Nat → Int32
  | 0 => 0
  | o + 1 => orv f ou o ||| (f (ou o) <<< (nI o &&& 31))
theorem isInp_7 {N : Nd} {k : Nat} (h : (N k).1 = 7) : ctB (isInp N) (k + 1) = ctB (isInp N) k + 1 := by rw [ctB]; simp [isInp, h]
theorem isInp_n {N : Nd} {k : Nat} (h : (N k).1 ≠ 7) : ctB (isInp N) (k + 1) = ctB (isInp N) k := by rw [ctB]; simp [isInp, h]
theorem c_run5 {N : Nd} {n : Nat} (hn : n ≤ 40) (hN : wfN N n) (b : Int64) (K : St → Option (Int32 × St)) : ∀ (f k : Nat) (S : St), k ≤ n → n - k < f → S 2 0 8 = nI n → (∀ j, j < n → rowC N S j) → (∀ j, j < k → S 19 0 j = rvF N b k j) → ∃ S', l_X5_outputsFor_5 K f S (rs b (ctB (isInp N) k)) (nI k) = K S' ∧ Same [(19, 0)] S S' ∧ ∀ j, j < n → S' 19 0 j = rvF N b n j := by
  intro f
  induction f with
  | zero => intro k S _ h; exact absurd h (by omega)
  | succ f ih =>
    intro k S hk hf h8 hr hv
    rw [show l_X5_outputsFor_5 K (f + 1) = b_X5_outputsFor_5 (l_X5_outputsFor_5 K f) K from rfl]
    unfold b_X5_outputsFor_5
    rw [h8]
    by_cases e : k = n
    · subst e
      rw [if_pos (nI_le (Nat.le_refl _) (by omega))]
      exact ⟨S, rfl, Same.rf, hv⟩
    · have hlt : k < n := by omega
      have hix : ix (nI k) 40 = true := ix_nI (by omega) (by decide)
      have hcl : (nI k).toNatClampNeg = k := nI_clamp (by omega)
      obtain ⟨r1, r2, -, -⟩ := hr k hlt
      obtain ⟨n7, np⟩ := hN k hlt
      have q7 : (nI (N k).1 = 7) ↔ ((N k).1 = 7) := Eq.to_iff (nI_inj (b := 7) (by omega) (by decide))
      rw [if_neg (nI_ge hlt (by omega)), gd_t hix, lt_, hcl, r1]
      -- the value is laid
      have fin : ∀ x y, x = rv1 N b (rvF N b k) k → y = rs b (ctB (isInp N) (k + 1)) → ∃ S', j_X5_outputsFor_97 (l_X5_outputsFor_5 K f) K (put S 19 0 k x) y (nI k) = K S' ∧ Same [(19, 0)] S S' ∧ ∀ j, j < n → S' 19 0 j = rvF N b n j := by
        intro x y hx hy
        unfold j_X5_outputsFor_97
        rw [lt_, nI_1, hy]
        have s1 : Same [(19, 0)] S (put S 19 0 k x) := Same.rf.put (by simp)
        obtain ⟨S', a1, a2, a3⟩ := ih (k + 1) (put S 19 0 k x) (by omega) (by omega) (by rw [put_o rfl]; exact h8) (fun j hj => by
          unfold rowC
          rw [put_o rfl, put_o rfl, put_o rfl, put_o rfl, put_o rfl, put_o rfl]
          exact hr j hj) (fun j hj => by
          rw [put_jj]
          by_cases z : j = k
          · rw [if_pos z, z, rvF_at, hx]
          · rw [if_neg z, rvF_ne z]; exact hv j (by omega))
        exact ⟨S', a1, s1.tr a2, a3⟩
      by_cases z : (N k).1 = 7
      · have hct := ctB_le (isInp N) k
        rw [if_pos (q7.mpr z), gd_t hix, lt_, lt_]
        exact fin _ _ (by unfold rv1; rw [if_pos z]; exact rs_bt b (by omega)) (by rw [isInp_7 z]; rfl)
      · obtain ⟨p1, p2, p3⟩ := np z
        obtain ⟨t1, t2, t3⟩ := r2 z
        rw [if_neg (fun q => z (q7.mp q)), gd_t hix, lt_, gd_t hix, lt_, t1, gd_t (ix_nI (show (N k).2.1 < 40 by omega) (by decide)), lt_, nI_clamp (show (N k).2.1 < 2 ^ 31 by omega), hv _ p1, gd_t hix, lt_, t2, gd_t (ix_nI (show (N k).2.2.1 < 40 by omega) (by decide)), lt_, nI_clamp (show (N k).2.2.1 < 2 ^ 31 by omega), hv _ p2, gd_t hix, lt_, t3, gd_t (ix_nI (show (N k).2.2.2 < 40 by omega) (by decide)), lt_, nI_clamp (show (N k).2.2.2 < 2 ^ 31 by omega), hv _ p3, bi_e (c_gtv _ _ _ _ _), gd_t hix, lt_]
        exact fin _ _ (by unfold rv1; rw [if_neg z]) (by rw [isInp_n z])
theorem c_run109 {n m : Nat} {ou : Nat → Nat} (hn : n ≤ 40) (hm : m ≤ 8) {S : St} {F : Nat → Int32} (h10 : S 2 0 10 = nI m) (hou : ∀ o, o < m → ou o < n ∧ S 20 0 o = nI (ou o)) (hv : ∀ j, j < n → S 19 0 j = F j) : ∀ (f o : Nat), o ≤ m → m - o < f → l_X5_outputsFor_109 f S (orv F ou o) (nI o) = some (orv F ou m, S) := by
  intro f
  induction f with
  | zero => intro o _ h; exact absurd h (by omega)
  | succ f ih =>
    intro o ho hf
    rw [show l_X5_outputsFor_109 (f + 1) = b_X5_outputsFor_109 (l_X5_outputsFor_109 f) from rfl]
    unfold b_X5_outputsFor_109
    rw [h10]
    by_cases e : o = m
    · rw [e, if_pos (nI_le (Nat.le_refl _) (by omega))]
    · obtain ⟨o1, o2⟩ := hou o (by omega)
      rw [if_neg (nI_ge (show o < m by omega) (by omega)), gd_t (ix_nI (show o < 8 by omega) (by decide)), lt_, nI_clamp (show o < 2 ^ 31 by omega), o2, gd_t (ix_nI (show ou o < 40 by omega) (by decide)), lt_, nI_clamp (show ou o < 2 ^ 31 by omega), hv _ o1, lt_, lt_, nI_1]
      exact ih (o + 1) (by omega) (by omega)
theorem X_run {N : Nd} {n m : Nat} {ou : Nat → Nat} {S : St} (hw : WfN N n m ou) (hP : PnC N n m ou S) (b : Int64) : ∃ S', f_X8_run b S = some (orv (rvF N b n) ou m, S') ∧ Same [(19, 0)] S S' := by
  obtain ⟨hn, hm, hN, hoo⟩ := hw
  obtain ⟨⟨p1, p2, p3, p4, p5, p6⟩, -⟩ := hP
  obtain ⟨S', a1, a2, a3⟩ := c_run5 hn hN b (fun S => l_X5_outputsFor_109 5000 S 0 0) 5000 0 S (by omega) (by omega) p1 p4 (fun j hj => absurd hj (by omega))
  have a1 : f_X5_outputsFor b S = _ := a1
  have h := c_run109 (ou := ou) (F := rvF N b n) hn hm (S := S') (by rw [a2 2 0 (by decide)]; exact p2) (fun o ho => ⟨hoo o ho, by rw [a2 20 0 (by decide)]; exact p5 o ho⟩) a3 5000 0 (by omega) (by omega)
  have h : l_X5_outputsFor_109 5000 S' 0 0 = _ := h
  unfold f_X8_run
  rw [a1, h]
  exact ⟨S', rfl, a2⟩
theorem m_run5 {N : Nd} {n : Nat} (hn : n ≤ 40) (hN : wfN N n) (b : Int64) (K : St → Option (Int32 × St)) : ∀ (f k : Nat) (T : St), k ≤ n → n - k < f → NM N n T → (∀ j, j < k → T 38 0 j = rvF N b k j) → ∃ T', l_X9_run_5 K f T b (nI (ctB (isInp N) k)) (nI k) = K T' ∧ Same [(38, 0)] T T' ∧ ∀ j, j < n → T' 38 0 j = rvF N b n j := by
  intro f
  induction f with
  | zero => intro k T _ h; exact absurd h (by omega)
  | succ f ih =>
    intro k T hk hf hM hv
    rw [show l_X9_run_5 K (f + 1) = b_X9_run_5 (l_X9_run_5 K f) K from rfl]
    unfold b_X9_run_5
    rw [hM.1]
    by_cases e : k = n
    · subst e
      rw [if_pos (nI_le (Nat.le_refl _) (by omega))]
      exact ⟨T, rfl, Same.rf, hv⟩
    · have hlt : k < n := by omega
      have hix : ix (nI k) 40 = true := ix_nI (by omega) (by decide)
      have hix2 : ix (nI k) 200 = true := ix_nI (by omega) (by decide)
      have hcl : (nI k).toNatClampNeg = k := nI_clamp (by omega)
      obtain ⟨r1, r2, r3, r4⟩ := hM.2 k hlt
      obtain ⟨n7, np⟩ := hN k hlt
      rw [if_neg (nI_ge hlt (by omega)), gd_t hix, lt_, hcl, r1]
      -- the value is laid
      have fin : ∀ x y, x = rv1 N b (rvF N b k) k → y = nI (ctB (isInp N) (k + 1)) → ∃ T', j_X9_run_126 (l_X9_run_5 K f) K (put T 38 0 k x) b y (nI k) = K T' ∧ Same [(38, 0)] T T' ∧ ∀ j, j < n → T' 38 0 j = rvF N b n j := by
        intro x y hx hy
        unfold j_X9_run_126
        rw [lt_, nI_1, hy]
        have s1 : Same [(38, 0)] T (put T 38 0 k x) := Same.rf.put (by simp)
        obtain ⟨T', a1, a2, a3⟩ := ih (k + 1) (put T 38 0 k x) (by omega) (by omega) (by
          refine ⟨by rw [put_o rfl]; exact hM.1, ?_⟩
          rw [put_o rfl, put_o rfl, put_o rfl, put_o rfl]
          exact hM.2) (fun j hj => by
          rw [put_jj]
          by_cases z : j = k
          · rw [if_pos z, z, rvF_at, hx]
          · rw [if_neg z, rvF_ne z]; exact hv j (by omega))
        exact ⟨T', a1, s1.tr a2, a3⟩
      by_cases z : (N k).1 = 7
      · rw [if_pos z, if_neg (show ¬ (0 : Int32) ≤ -1 from by decide), gd_t hix2, lt_, lt_, nI_1]
        exact fin _ _ (by unfold rv1; rw [if_pos z]; rfl) (by rw [isInp_7 z])
      · obtain ⟨p1, p2, p3⟩ := np z
        have t1 := r2 z
        have q0 : (nI (N k).1 = 0) ↔ ((N k).1 = 0) := Eq.to_iff (nI_inj (b := 0) (by omega) (by decide))
        have q6 : ((6 : Int32) ≤ nI (N k).1) ↔ (6 ≤ (N k).1) := nI_leI (a := 6) (by decide) (by omega)
        have k6 : (N k).1 ≤ 6 := by omega
        -- the gate with its second and third part as they are read
        have g3 : ∀ x2 x3, ((N k).1 ≠ 0 → x2 = rvF N b k (N k).2.2.1) → ((N k).1 = 6 → x3 = rvF N b k (N k).2.2.2) → ∃ T', j_X9_run_122 (l_X9_run_5 K f) K T b (nI (ctB (isInp N) k)) (nI k) (nI k) (nI (N k).1) (rvF N b k (N k).2.1) x2 x3 = K T' ∧ Same [(38, 0)] T T' ∧ ∀ j, j < n → T' 38 0 j = rvF N b n j := by
          intro x2 x3 h2 h3
          unfold j_X9_run_122
          rw [bi_e (m_gtv _ _ _ _ _), gd_t hix2, lt_, hcl]
          exact fin _ _ (by
            unfold rv1
            rw [if_neg z]
            exact gtv_irr k6 h2 h3) (by rw [isInp_n z])
        have g2 : ∀ x2, ((N k).1 ≠ 0 → x2 = rvF N b k (N k).2.2.1) → ∃ T', j_X9_run_94 (l_X9_run_5 K f) K T b (nI (ctB (isInp N) k)) (nI k) (nI k) (nI (N k).1) (rvF N b k (N k).2.1) x2 = K T' ∧ Same [(38, 0)] T T' ∧ ∀ j, j < n → T' 38 0 j = rvF N b n j := by
          intro x2 h2
          unfold j_X9_run_94
          rw [gd_t hix, lt_, hcl, r1, if_neg z]
          by_cases y6 : 6 ≤ (N k).1
          · have e6 : (N k).1 = 6 := by omega
            rw [if_pos (q6.mpr y6), gd_t hix, lt_, r4 e6, gd_t (ix_nI (show (N k).2.2.2 < 200 by omega) (by decide)), lt_, nI_clamp (show (N k).2.2.2 < 2 ^ 31 by omega), hv _ p3]
            exact g3 _ _ h2 (fun _ => rfl)
          · rw [if_neg (fun q => y6 (q6.mp q))]
            exact g3 _ _ h2 (fun h => absurd h (by omega))
        rw [if_neg z, if_pos (nI_pos' (show (N k).1 < 2 ^ 31 by omega)), gd_t hix, lt_, gd_t hix, lt_, t1, gd_t (ix_nI (show (N k).2.1 < 200 by omega) (by decide)), lt_, nI_clamp (show (N k).2.1 < 2 ^ 31 by omega), hv _ p1, gd_t hix, lt_]
        by_cases y0 : (N k).1 = 0
        · rw [if_pos (q0.mpr y0)]
          exact g2 _ (fun h => absurd y0 h)
        · rw [if_neg (fun q => y0 (q0.mp q)), gd_t hix, lt_, r3 z y0, gd_t (ix_nI (show (N k).2.2.1 < 200 by omega) (by decide)), lt_, nI_clamp (show (N k).2.2.1 < 2 ^ 31 by omega), hv _ p2]
          exact g2 _ (fun _ => rfl)
theorem m_run138 {n m : Nat} {ou : Nat → Nat} (hn : n ≤ 40) (hm : m ≤ 8) {T : St} {F : Nat → Int32} (h10 : T 0 0 5 = nI m) (hou : ∀ o, o < m → ou o < n ∧ T 5 0 o = nI (ou o)) (hv : ∀ j, j < n → T 38 0 j = F j) : ∀ (f o : Nat), o ≤ m → m - o < f → l_X9_run_138 f T (orv F ou o) (nI o) = some (orv F ou m, T) := by
  intro f
  induction f with
  | zero => intro o _ h; exact absurd h (by omega)
  | succ f ih =>
    intro o ho hf
    rw [show l_X9_run_138 (f + 1) = b_X9_run_138 (l_X9_run_138 f) from rfl]
    unfold b_X9_run_138
    rw [h10]
    by_cases e : o = m
    · rw [e, if_pos (nI_le (Nat.le_refl _) (by omega))]
    · obtain ⟨o1, o2⟩ := hou o (by omega)
      rw [if_neg (nI_ge (show o < m by omega) (by omega)), gd_t (ix_nI (show o < 8 by omega) (by decide)), lt_, nI_clamp (show o < 2 ^ 31 by omega), o2, gd_t (ix_nI (show ou o < 200 by omega) (by decide)), lt_, nI_clamp (show ou o < 2 ^ 31 by omega), hv _ o1, lt_, lt_, nI_1]
      exact ih (o + 1) (by omega) (by omega)
theorem M_run {N : Nd} {n m : Nat} {ou : Nat → Nat} {T : St} (hw : WfN N n m ou) (hP : PnM N n m ou T) (b : Int64) : ∃ T', f_X9_run b T = some (orv (rvF N b n) ou m, T') ∧ Same [(38, 0)] T T' := by
  obtain ⟨hn, hm, hN, hoo⟩ := hw
  obtain ⟨p1, p2, p3, p4, p5, p6⟩ := hP
  obtain ⟨T', a1, a2, a3⟩ := m_run5 hn hN b (fun S => l_X9_run_138 5000 S 0 0) 5000 0 T (by omega) (by omega) p1 (fun j hj => absurd hj (by omega))
  have a1 : f_X9_run b T = _ := a1
  have h := m_run138 (ou := ou) (F := rvF N b n) hn hm (T := T') (by rw [a2 0 0 (by decide)]; exact p2) (fun o ho => ⟨hoo o ho, by rw [a2 5 0 (by decide)]; exact p3 o ho⟩) a3 5000 0 (by omega) (by omega)
  have h : l_X9_run_138 5000 T' 0 0 = _ := h
  rw [a1, h]
  exact ⟨T', rfl, a2⟩
