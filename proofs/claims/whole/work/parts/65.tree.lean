/-! THE TREE of a text, and how the class reads it -/
def sym (b : Int32) : Option Nat := if b = 78 then some 7 else if b = 73 then some 6 else if 97 ≤ b.toInt ∧ b.toInt < 103 then some (b.toInt - 97).toNat else none
def updN (f : Nat → Nat) (k v : Nat) : Nat → Nat := fun j => if j = k then v else f j
def symAt (tp : Nat → Int32) (ln p : Nat) : Option Nat := if skp tp ln p < ln then sym (tp (skp tp ln p)) else none
def nxd (s due : Nat) : Nat := if s = 7 then due + 1 else if s = 6 then due else due - 1
/-- what comes of reading on: the FAULT (0 none), its place or the place behind, how many symbols, the symbols -/
def trs (tp : Nat → Int32) (ln : Nat) : Nat → Nat → Nat → Nat → (Nat → Nat) → Nat × Nat × Nat × (Nat → Nat)
  | 0, k, _, p, sy => (9, p, k, sy)
  | f + 1, k, due, p, sy => if due = 0 then (0, p, k, sy) else match symAt tp ln p with
    | none => (1, skp tp ln p, k, sy)
    | some s => if k = 0 ∧ s < 6 then (1, skp tp ln p, k, sy) else if k = 12 then (3, skp tp ln p, k, sy) else trs tp ln f (k + 1) (nxd s due) (skp tp ln p + 1) (updN sy k s)
theorem sym_lt {b : Int32} {s : Nat} (h : sym b = some s) : s ≤ 7 := by
  unfold sym at h
  split at h
  · cases h; decide
  · split at h
    · cases h; decide
    · split at h
      · cases h
        omega
      · cases h
theorem symAt_lt {tp : Nat → Int32} {ln p s : Nat} (h : symAt tp ln p = some s) : s ≤ 7 ∧ skp tp ln p < ln := by
  unfold symAt at h
  split at h
  · rename_i q
    exact ⟨sym_lt h, q⟩
  · cases h
theorem trs_le (tp : Nat → Int32) {ln : Nat} : ∀ (f k due p : Nat) (sy : Nat → Nat), p ≤ ln → k ≤ 12 → (trs tp ln f k due p sy).2.1 ≤ ln ∧ (trs tp ln f k due p sy).2.2.1 ≤ 12
  | 0, k, due, p, sy, h, hk => ⟨h, hk⟩
  | f + 1, k, due, p, sy, h, hk => by
    have h1 := skp_le tp h
    rw [trs]
    split
    · exact ⟨h, hk⟩
    · split
      · exact ⟨h1.2, hk⟩
      · rename_i s hs
        split
        · exact ⟨h1.2, hk⟩
        · split
          · exact ⟨h1.2, hk⟩
          · exact trs_le tp f (k + 1) _ _ _ (symAt_lt hs).2 (by omega)
def pbs (sy : Nat → Nat) : Nat → Int32
  | 0 => 0
  | k + 1 => if sy k < 6 then pbs sy k ||| ((1 : Int32) <<< (nI (sy k) &&& 31)) else pbs sy k
def nns (sy : Nat → Nat) (k : Nat) : Nat := ctB (fun i => sy i == 7) k
theorem pbs_cg {sy sy' : Nat → Nat} : ∀ {k : Nat}, (∀ i, i < k → sy' i = sy i) → pbs sy' k = pbs sy k
  | 0, _ => rfl
  | k + 1, h => by rw [pbs, pbs, pbs_cg (fun i hi => h i (by omega)), h k (by omega)]
theorem nns_cg {sy sy' : Nat → Nat} {k : Nat} (h : ∀ i, i < k → sy' i = sy i) : nns sy' k = nns sy k := ctB_cg (fun i hi => by rw [h i hi])
theorem updN_lt {f : Nat → Nat} {k v i : Nat} (h : i < k) : updN f k v i = f i := if_neg (by omega)
theorem updN_at (f : Nat → Nat) (k v : Nat) : updN f k v k = v := if_pos rfl
/-- the class's cell c with k symbols -/
def CL (c k : Nat) (sy : Nat → Nat) (S : St) : Prop := S 8 c 1 = nI k ∧ S 8 c 2 = nI (nns sy k) ∧ S 8 c 3 = pbs sy k ∧ ∀ i, i < k → S 36 c i = nI (sy i)
theorem c_addSymbol {c k s : Nat} {sy : Nat → Nat} {S : St} (h : CL c k sy S) (hk : k < 12) (hs : s ≤ 7) : ∃ S', f_X0_addSymbol c (nI s) S = some S' ∧ CL c (k + 1) (updN sy k s) S' ∧ Same [(8, c), (36, c)] S S' ∧ ∀ j, j ≠ 1 → j ≠ 2 → j ≠ 3 → S' 8 c j = S 8 c j := by
  obtain ⟨h1, h2, h3, h4⟩ := h
  have e7 : (nI s = 7) = (s = 7) := nI_inj (b := 7) (by omega) (by decide)
  have e6 : ((6 : Int32) ≤ nI s) = (6 ≤ s) := propext (nI_leI (a := 6) (by decide) (by omega))
  unfold f_X0_addSymbol j_X0_addSymbol_67
  rw [h1, if_pos (show nI k < 12 from nI_lt (b := 12) hk (by decide))]
  simp only [ix_nI hk (by decide), gd, lt_, nI_clamp (show k < 2 ^ 31 by omega), e7, e6]
  have r36 : ∀ k' : Nat, (8 == 36 && k' == c) = false := fun _ => rfl
  have o8 : ∀ j, put S 36 c k (nI s) 8 c j = S 8 c j := fun j => by rw [put_at]; simp
  simp only [o8, h1, nI_1]
  have p1 : pbs (updN sy k s) k = pbs sy k := pbs_cg (fun i hi => updN_lt hi)
  have n1 : nns (updN sy k s) k = nns sy k := nns_cg (fun i hi => updN_lt hi)
  have n2 : nns (updN sy k s) (k + 1) = nns sy k + (if s = 7 then 1 else 0) := by
    unfold nns at n1 ⊢
    rw [ctB, n1, updN_at]
    by_cases z : s = 7 <;> simp [z]
  have p2 : pbs (updN sy k s) (k + 1) = if s < 6 then pbs sy k ||| ((1 : Int32) <<< (nI s &&& 31)) else pbs sy k := by
    rw [pbs, p1, updN_at]
  have row : ∀ (S' : St), (∀ i, S' 36 c i = put S 36 c k (nI s) 36 c i) → ∀ i, i < k + 1 → S' 36 c i = nI (updN sy k s i) := by
    intro S' hS i hi
    rw [hS, put_jj]
    by_cases z : i = k
    · rw [if_pos z, z, updN_at]
    · rw [if_neg z, updN_lt (by omega), h4 i (by omega)]
  by_cases z : s = 7
  · rw [if_pos z]
    refine ⟨_, rfl, ⟨?_, ?_, ?_, row _ (fun i => ?_)⟩, ((Same.rf.put (by simp)).put (by simp)).put (by simp), fun j a b d => ?_⟩
    · simp [put_at]
    · rw [n2, if_pos z]; simp [put_at, h2, nI_1]
    · rw [p2, if_neg (by omega)]; simp [put_at, h3]
    · simp [put_at]
    · simp [put_at, a, b]
  · rw [if_neg z]
    by_cases y : 6 ≤ s
    · rw [if_pos y]
      refine ⟨_, rfl, ⟨?_, ?_, ?_, row _ (fun i => ?_)⟩, (Same.rf.put (by simp)).put (by simp), fun j a b d => ?_⟩
      · simp [put_at]
      · simp [put_at, h2, n2, z]
      · rw [p2, if_neg (by omega)]; simp [put_at, h3]
      · simp [put_at]
      · simp [put_at, a]
    · rw [if_neg y]
      refine ⟨_, rfl, ⟨?_, ?_, ?_, row _ (fun i => ?_)⟩, ((Same.rf.put (by simp)).put (by simp)).put (by simp), fun j a b d => ?_⟩
      · simp [put_at]
      · simp [put_at, h2, n2, z]
      · rw [p2, if_pos (by omega)]; simp [put_at, h3]
      · simp [put_at]
      · simp [put_at, a, d]
theorem c_symbolOf (b : Int32) (S : St) : f_X6_symbolOf b S = some ((match sym b with
    | some s => nI s
    | none => -4), S) := by
  unfold f_X6_symbolOf j_X6_symbolOf_37 j_X6_symbolOf_39 sym
  by_cases h1 : b = 78
  · rw [if_pos h1, if_pos h1]; rfl
  · rw [if_neg h1, if_neg h1]
    by_cases h2 : b = 73
    · rw [if_pos h2, if_pos h2]; rfl
    · rw [if_neg h2, if_neg h2]
      simp only [Int32.lt_iff_toInt_lt, Int32.le_iff_toInt_le, show (97 : Int32).toInt = 97 from by decide, show (103 : Int32).toInt = 103 from by decide]
      by_cases h3 : b.toInt < 97
      · rw [if_pos h3, if_neg (by omega)]
      · rw [if_neg h3]
        by_cases h4 : 103 ≤ b.toInt
        · rw [if_pos h4, if_neg (by omega)]
        · rw [if_neg h4, if_pos (by omega)]
          have e : b = nI b.toInt.toNat := i32_eq (by rw [nI_toInt (by omega)]; omega)
          have e2 : b - 97 = nI (b.toInt - 97).toNat := by
            rw [e]
            have : nI b.toInt.toNat - nI 97 = nI (b.toInt.toNat - 97) := pk_sub (by omega)
            rw [← e]
            rw [show b - 97 = nI b.toInt.toNat - nI 97 from by rw [← e]; rfl, this]
            congr 1
            omega
          rw [e2]
theorem c_t80 (kb : St → Nat → Int32 → Int32 → Option (Int32 × St)) {c k s due q : Nat} {sy : Nat → Nat} {S1 : St} (p1 : S1 3 0 2 = nI q) (C1 : CL c k sy S1) (hk : k < 12) (hs : s ≤ 7) (hd : 0 < due) : ∃ S3, j_X6_readTree_80 kb S1 c (nI due) (nI k) (nI s) = kb S3 c (nI (nxd s due)) (nI (k + 1)) ∧ CL c (k + 1) (updN sy k s) S3 ∧ Same [(3, 0), (8, c), (36, c)] S1 S3 ∧ S3 3 0 2 = nI (q + 1) ∧ (∀ j, j ≠ 2 → S3 3 0 j = S1 3 0 j) ∧ ∀ j, j ≠ 1 → j ≠ 2 → j ≠ 3 → S3 8 c j = S1 8 c j := by
  obtain ⟨S2, a1, a2, a3, a4⟩ := c_addSymbol C1 hk hs
  have q3 : S2 3 0 = S1 3 0 := a3 3 0 (by simp)
  have e7 : (nI s = 7) = (s = 7) := nI_inj (b := 7) (by omega) (by decide)
  have e6 : ((6 : Int32) ≤ nI s) = (6 ≤ s) := propext (nI_leI (a := 6) (by decide) (by omega))
  have hp : S2 3 0 2 + 1 = nI (q + 1) := by rw [q3, p1, nI_1]
  refine ⟨put S2 3 0 2 (nI (q + 1)), ?_, ?_, ?_, put_self _ _ _ _ _, fun j hj => ?_, fun j u v w => ?_⟩
  · unfold j_X6_readTree_80 j_X6_readTree_135
    rw [if_pos (show nI k < 12 from nI_lt (b := 12) hk (by decide)), bv_e a1, hp]
    rw [lt_]
    unfold nxd
    by_cases u : s = 7
    · have c7 : nI s = 7 := by rw [e7]; exact u
      rw [if_pos c7, if_pos u, lt_, lt_, nI_1, nI_1]
    · have c7 : ¬ nI s = 7 := by rw [e7]; exact u
      rw [if_neg c7, if_neg u]
      by_cases v : 6 ≤ s
      · have c6 : (6 : Int32) ≤ nI s := by rw [e6]; exact v
        rw [if_pos c6, if_pos (show s = 6 by omega), lt_, nI_1]
      · have c6 : ¬ (6 : Int32) ≤ nI s := by rw [e6]; exact v
        rw [if_neg c6, if_neg (show ¬ s = 6 by omega), lt_, lt_, nI_m1 hd, nI_1]
  · obtain ⟨w1, w2, w3, w4⟩ := a2
    unfold CL
    rw [put_ne (by omega), put_ne (by omega)]
    exact ⟨w1, w2, w3, w4⟩
  · exact (a3.mono (by simp)).put (by simp)
  · rw [put_j hj, q3]
  · rw [put_ne (by omega), a4 j u v w]
theorem c_treel {ln : Nat} (hl : ln ≤ 60) {tp : Nat → Int32} {c : Nat} : ∀ (f g k due p : Nat) (sy : Nat → Nat) (S : St), TC ln tp S → S 3 0 2 = nI p → p ≤ ln → S 3 0 3 = 0 → k ≤ 12 → due ≤ k + 1 → 13 - k < f → 13 - k < g → CL c k sy S → ∃ S', l_X6_readTree_8 f S c (nI due) (nI k) = some (b01 ((trs tp ln g k due p sy).1 == 0), S') ∧ S' 3 0 3 = nI (trs tp ln g k due p sy).1 ∧ S' 3 0 2 = nI (trs tp ln g k due p sy).2.1 ∧ CL c (trs tp ln g k due p sy).2.2.1 (trs tp ln g k due p sy).2.2.2 S' ∧ Same [(3, 0), (8, c), (36, c)] S S' ∧ S' 3 0 1 = nI ln ∧ ∀ j, j ≠ 1 → j ≠ 2 → j ≠ 3 → S' 8 c j = S 8 c j := by
  intro f
  induction f with
  | zero => intro g k due p sy S _ _ _ _ _ _ h; exact absurd h (by omega)
  | succ f ih =>
    intro g k due p sy S h hp hpl hf hk hd hf1 hg hC
    rw [show l_X6_readTree_8 (f + 1) = b_X6_readTree_8 (l_X6_readTree_8 f) from rfl]
    unfold b_X6_readTree_8
    rw [if_neg (show ¬ (12 : Int32) < nI k from nI_nlt (a := 12) hk (by decide))]
    match g, hg with
    | g + 1, hg =>
      rw [trs]
      by_cases z : due = 0
      · rw [if_pos z, if_pos (by rw [z]; decide)]
        exact ⟨S, rfl, hf, hp, hC, Same.rf, h.1, fun _ _ _ _ => rfl⟩
      · rw [if_neg z, if_neg (nI_nle (by omega) (by omega)), bv_e (c_skip hl h hp hpl)]
        have h1 := skp_le tp hpl
        generalize hS1 : put S 3 0 2 (nI (skp tp ln p)) = S1
        have t1 : TC ln tp S1 := by rw [← hS1]; exact h.p2
        have p1 : S1 3 0 2 = nI (skp tp ln p) := by rw [← hS1, put_self]
        have f1 : S1 3 0 3 = 0 := by rw [← hS1, put_j (by decide)]; exact hf
        have s1 : Same [(3, 0)] S S1 := by rw [← hS1]; exact Same.rf.put (by decide)
        have C1 : CL c k sy S1 := by
          obtain ⟨a1, a2, a3, a4⟩ := hC
          unfold CL
          rw [s1 8 c (by simp), s1 36 c (by simp)]
          exact ⟨a1, a2, a3, a4⟩
        -- a fault here
        have fail : ∀ e : Nat, e ≠ 0 → ∃ S', f_X6_failAt (S1 3 0 2) (nI e) S1 = some (0, S') ∧ S' 3 0 3 = nI e ∧ S' 3 0 2 = nI (skp tp ln p) ∧ CL c k sy S' ∧ Same [(3, 0), (8, c), (36, c)] S S' ∧ S' 3 0 1 = nI ln ∧ ∀ j, j ≠ 1 → j ≠ 2 → j ≠ 3 → S' 8 c j = S 8 c j := by
          intro e he
          unfold f_X6_failAt
          refine ⟨_, rfl, put_self _ _ _ _ _, ?_, ?_, ?_, ?_, ?_⟩
          · rw [put_j (by decide), put_self]; exact p1
          · obtain ⟨a1, a2, a3, a4⟩ := C1
            refine ⟨?_, ?_, ?_, fun i hi => ?_⟩
            · simp [put_at, a1]
            · simp [put_at, a2]
            · simp [put_at, a3]
            · simp [put_at, a4 i hi]
          · exact (s1.mono (by simp)).tr ((Same.rf.put (by simp)).put (by simp))
          · simp [put_at, t1.1]
          · intro j _ _ _
            simp [put_at]
            rw [s1 8 c (by simp)]
        -- a symbol, or none
        have j50 : j_X6_readTree_50 (l_X6_readTree_8 f) S1 c (nI due) (nI k) (match symAt tp ln p with
            | some s => nI s
            | none => -4) = (if (S1 3 0 1) ≤ (S1 3 0 2) then j_X6_readTree_50 (l_X6_readTree_8 f) S1 c (nI due) (nI k) ((-4)) else gd (ix (S1 3 0 2) 60) (lt_ (S1 23 0 (S1 3 0 2).toNatClampNeg) (fun v_33 => bi (f_X6_symbolOf v_33 S1) (fun r_35 S_36 => j_X6_readTree_50 (l_X6_readTree_8 f) S_36 c (nI due) (nI k) r_35)))) := by
          rw [t1.1, p1]
          unfold symAt
          by_cases q : skp tp ln p < ln
          · rw [if_neg (nI_ge q (by omega)), if_pos q]
            simp only [ix_nI (show skp tp ln p < 60 by omega) (by decide), gd, lt_, nI_clamp (show skp tp ln p < 2 ^ 31 by omega), t1.2 _ q]
            rw [bi_e (c_symbolOf _ _)]
          · rw [if_pos (nI_le (by omega) (by omega)), if_neg q]
        rw [← j50]
        unfold j_X6_readTree_50
        have hk0 : (nI k = 0) = (k = 0) := nI_inj (b := 0) (by omega) (by decide)
        have b0 : ∀ S' : St, gd (bz 0) (some ((0 : Int32), S')) = some (b01 false, S') := fun _ => rfl
        cases hq : symAt tp ln p with
        | none =>
          simp only [if_true]
          obtain ⟨S', a1, a2⟩ := fail 1 (by decide)
          have a1 : f_X6_failAt (S1 3 0 2) 1 S1 = some (0, S') := a1
          rw [bi_e a1, b0]
          exact ⟨S', rfl, a2⟩
        | some s =>
          obtain ⟨hs7, hlt⟩ := symAt_lt hq
          have h4 : ¬ nI s = -4 := by
            intro y
            have := congrArg Int32.toInt y
            rw [nI_toInt (by omega), show (-4 : Int32).toInt = -4 from by decide] at this
            omega
          have e6 : ((6 : Int32) ≤ nI s) = (6 ≤ s) := propext (nI_leI (a := 6) (by decide) (by omega))
          simp only [if_neg h4, hk0, e6]
          by_cases y : k = 0 ∧ s < 6
          · rw [if_pos y, if_pos y.1, if_neg (by omega)]
            obtain ⟨S', a1, a2⟩ := fail 1 (by decide)
            have a1 : f_X6_failAt (S1 3 0 2) 1 S1 = some (0, S') := a1
            rw [bi_e a1, b0]
            exact ⟨S', rfl, a2⟩
          · rw [if_neg y]
            have e80 : (if k = 0 then if 6 ≤ s then j_X6_readTree_80 (l_X6_readTree_8 f) S1 c (nI due) (nI k) (nI s) else bi (f_X6_failAt (S1 3 0 2) 1 S1) (fun r_29 S_30 => gd (bz r_29) (some (r_29, S_30))) else j_X6_readTree_80 (l_X6_readTree_8 f) S1 c (nI due) (nI k) (nI s)) = j_X6_readTree_80 (l_X6_readTree_8 f) S1 c (nI due) (nI k) (nI s) := by
              by_cases w : k = 0
              · rw [if_pos w, if_pos (by omega)]
              · rw [if_neg w]
            rw [e80]
            by_cases y12 : k = 12
            · unfold j_X6_readTree_80
              rw [if_pos y12, if_neg (show ¬ nI k < 12 from nI_nlt (b := 12) (by omega) (by omega))]
              obtain ⟨S', a1, a2⟩ := fail 3 (by decide)
              have a1 : f_X6_failAt (S1 3 0 2) 3 S1 = some (0, S') := a1
              rw [bi_e a1, b0]
              exact ⟨S', rfl, a2⟩
            · rw [if_neg y12]
              obtain ⟨S3, a1, a2, a3, a4, a5, a6⟩ := c_t80 (l_X6_readTree_8 f) p1 C1 (show k < 12 by omega) hs7 (show 0 < due by omega)
              have hdl : nxd s due ≤ k + 1 + 1 := by
                unfold nxd
                split
                · omega
                · split <;> omega
              obtain ⟨S', b1, b2, b3, b4, b5, b6, b7⟩ := ih g (k + 1) (nxd s due) (skp tp ln p + 1) (updN sy k s) S3 ⟨by rw [a5 1 (by decide)]; exact t1.1, by rw [a3 23 0 (by simp)]; exact t1.2⟩ a4 (by omega) (by rw [a5 3 (by decide)]; exact f1) (by omega) hdl (by omega) (by omega) a2
              refine ⟨S', a1.trans b1, b2, b3, b4, ((s1.mono (by simp)).tr a3).tr b5, b6, fun j u v w => ?_⟩
              rw [b7 j u v w, a6 j u v w, s1 8 c (by simp)]
