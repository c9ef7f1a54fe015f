/-! The reference's loop over a tree -/
theorem sym_cases {b : Int32} {s : Nat} (h : sym b = some s) : (b = 78) = (s = 7) ∧ (b = 73) = (s = 6) ∧ (s < 6 → b - 97 = nI s) ∧ decide (97 ≤ b.toInt ∧ b.toInt ≤ 102) = decide (s < 6) ∧ s ≤ 7 := by
  have h7 := sym_lt h
  unfold sym at h
  by_cases h1 : b = 78
  · rw [if_pos h1] at h
    cases h
    subst h1
    exact ⟨by simp, by simp, fun h => absurd h (by decide), by decide, h7⟩
  · rw [if_neg h1] at h
    by_cases h2 : b = 73
    · rw [if_pos h2] at h
      cases h
      subst h2
      exact ⟨by simp, by simp, fun h => absurd h (by decide), by decide, h7⟩
    · rw [if_neg h2] at h
      by_cases h3 : 97 ≤ b.toInt ∧ b.toInt < 103
      · rw [if_pos h3] at h
        cases h
        have e : b = nI b.toInt.toNat := i32_eq (by rw [nI_toInt (by omega)]; omega)
        refine ⟨?_, ?_, fun _ => ?_, ?_, h7⟩
        · simp [h1]; omega
        · simp [h2]; omega
        · have : nI b.toInt.toNat - nI 97 = nI (b.toInt.toNat - 97) := pk_sub (by omega)
          rw [show b - 97 = nI b.toInt.toNat - nI 97 from by rw [← e]; rfl, this]
          congr 1
          omega
        · rw [decide_eq_true (by omega), decide_eq_true (by omega)]
      · rw [if_neg h3] at h
        cases h
theorem sym_none {b : Int32} (h : sym b = none) : ¬ b = 78 ∧ ¬ b = 73 ∧ ¬ (97 ≤ b.toInt ∧ b.toInt ≤ 102) := by
  unfold sym at h
  by_cases h1 : b = 78
  · rw [if_pos h1] at h; cases h
  · rw [if_neg h1] at h
    by_cases h2 : b = 73
    · rw [if_pos h2] at h; cases h
    · rw [if_neg h2] at h
      by_cases h3 : 97 ≤ b.toInt ∧ b.toInt < 103
      · rw [if_pos h3] at h; cases h
      · exact ⟨h1, h2, by omega⟩
theorem symAt_bat (tp : Nat → Int32) (ln p : Nat) : symAt tp ln p = sym (bat tp ln (skp tp ln p)) := by
  unfold symAt bat
  by_cases h : skp tp ln p < ln
  · rw [if_pos h, if_pos h]
  · rw [if_neg h, if_neg h]; rfl
/-- all of the reference's state that a tree's reading may change -/
def exT : List (Nat × Nat) := [(0, 0), (20, 0), (21, 0), (22, 0), (23, 0), (24, 0), (25, 0), (26, 0), (27, 0)]
/-- what other cells have stays -/
def OthM (c : Nat) (T T' : St) : Prop := (∀ j, j ≠ c → T' 20 0 j = T 20 0 j ∧ T' 21 0 j = T 21 0 j) ∧ ∀ j, ¬ (12 * c ≤ j ∧ j < 12 * c + 12) → T' 22 0 j = T 22 0 j ∧ T' 23 0 j = T 23 0 j ∧ T' 24 0 j = T 24 0 j ∧ T' 25 0 j = T 25 0 j
theorem OthM.rf {c : Nat} {T : St} : OthM c T T := ⟨fun _ _ => ⟨rfl, rfl⟩, fun _ _ => ⟨rfl, rfl, rfl, rfl⟩⟩
theorem OthM.tr {c : Nat} {T T1 T2 : St} (h1 : OthM c T T1) (h2 : OthM c T1 T2) : OthM c T T2 := ⟨fun j hj => ⟨(h2.1 j hj).1.trans (h1.1 j hj).1, (h2.1 j hj).2.trans (h1.1 j hj).2⟩, fun j hj => by
  obtain ⟨a, b, d, e⟩ := h1.2 j hj
  obtain ⟨a', b', d', e'⟩ := h2.2 j hj
  exact ⟨a'.trans a, b'.trans b, d'.trans d, e'.trans e⟩⟩
theorem OthM.z {c : Nat} {T : St} {j : Nat} {x : Int32} : OthM c T (put T 0 0 j x) := ⟨fun _ _ => ⟨by rw [put_o rfl], by rw [put_o rfl]⟩, fun _ _ => ⟨by rw [put_o rfl], by rw [put_o rfl], by rw [put_o rfl], by rw [put_o rfl]⟩⟩
/-- a symbol is taken: its place among its whole's parts, then the rows -/
theorem m_take {c k s p : Nat} {sy : Nat → Nat} {T : St} {b : Int32} (kb : St → Int32 → Int32 → Int32 → Int32 → Option St) (K : St → Int32 → Int32 → Option St) (hc : c < 20) (hk : k < 12) {q : Option (Nat × Bool)} {r : List (Option (Nat × Bool))} (hpd : pend sy k = q :: r) (hs : sym b = some s) (hWS : WS (q :: r) (T 26 0) (T 27 0)) (hL : ML c k sy T) (hp : T 0 0 33 = nI p) : ∃ T', j_X9_tree_106 kb K T (nI c) (nI (12 * c)) (nI k) (nI (r.length + 1)) b (b01 (decide (s < 6))) = kb T' (nI c) (nI (12 * c)) (nI (k + 1)) (nI (nxd s (r.length + 1))) ∧ ML c (k + 1) (updN sy k s) T' ∧ WS (pend (updN sy k s) (k + 1)) (T' 26 0) (T' 27 0) ∧ T' 0 0 33 = nI (p + 1) ∧ (∀ j, j ≠ 33 → T' 0 0 j = T 0 0 j) ∧ Same exT T T' ∧ OthM c T T' := by
  obtain ⟨hb7, hb6, hbp, -, hs7⟩ := sym_cases hs
  have hpo := pend_ok sy k
  have hlen := pend_le sy k
  rw [hpd] at hlen
  simp at hlen
  obtain ⟨hw1, hw2, hw3⟩ := hWS
  obtain ⟨m1, m2, m3, m4⟩ := hL
  have hcg : ∀ i, i ≤ k → pend (updN sy k s) i = pend sy i := fun i hi => pend_cg (fun j hj => updN_lt (by omega))
  -- behind the place: the rows
  have fin : ∀ T1 : St, (∀ i, i < k → T1 22 0 (12 * c + i) = sgn (sy i) ∧ T1 23 0 (12 * c + i) = ltr (sy i)) → T1 20 0 c = nI (nns sy k) → T1 21 0 c = pbs sy k → T1 0 0 = T 0 0 → T1 26 0 = T 26 0 → T1 27 0 = T 27 0 → (∀ i, i < k + 1 → ∀ o b r, pend sy i = some (o, b) :: r → T1 (if b then 25 else 24) 0 (12 * c + o) = nI i) → Same exT T T1 → OthM c T T1 → ∃ T', j_X9_tree_174 kb K T1 (nI c) (nI (12 * c)) (nI k) (nI r.length) b (b01 (decide (s < 6))) = kb T' (nI c) (nI (12 * c)) (nI (k + 1)) (nI (nxd s (r.length + 1))) ∧ ML c (k + 1) (updN sy k s) T' ∧ WS (pend (updN sy k s) (k + 1)) (T' 26 0) (T' 27 0) ∧ T' 0 0 33 = nI (p + 1) ∧ (∀ j, j ≠ 33 → T' 0 0 j = T 0 0 j) ∧ Same exT T T' ∧ OthM c T T' := by
    intro T1 h22 h20 h21 h0 h26 h27 htr hsm hoth
    obtain ⟨T', a1, a2, a3, a4, a5, a6, a7, a8, a9, a10, a11, a12⟩ := m_push (sy := sy) kb K hc hk (w := r.length) (by omega) hs7 hb7 hb6 hbp (x6 := b01 (decide (s < 6))) rfl h20 h21 h22 (p := p) (by rw [h0]; exact hp)
    have en : r.length + (if s = 7 then 2 else if s = 6 then 1 else 0) = nxd s (r.length + 1) := by
      unfold nxd
      by_cases u : s = 7
      · rw [if_pos u, if_pos u]
      · rw [if_neg u, if_neg u]
        by_cases v : s = 6
        · rw [if_pos v, if_pos v]
        · rw [if_neg v, if_neg v]; omega
    rw [en] at a1
    refine ⟨T', a1, ⟨a2, a3, a4, fun i hi o b' r' hq => ?_⟩, ?_, a5, fun j hj => by rw [a6 j hj, h0], hsm.tr (a7.mono (by decide)), hoth.tr ⟨a8, fun j hj => ⟨(a9 j hj).1, (a9 j hj).2, by rw [a7 24 0 (by decide)], by rw [a7 25 0 (by decide)]⟩⟩⟩
    · rw [hcg i (by omega)] at hq
      have := htr i hi o b' r' hq
      cases b'
      · simp only [show ((false = true) = False) from by simp, if_false] at this ⊢
        rw [a7 24 0 (by decide)]; exact this
      · simp only [if_true] at this ⊢
        rw [a7 25 0 (by decide)]; exact this
    · have ep : pend (updN sy k s) (k + 1) = if s = 7 then some (k, false) :: some (k, true) :: r else if s = 6 then some (k, false) :: r else r := by
        rw [pend, hcg k (Nat.le_refl k), hpd, updN_at]
      have wr : WS r (T' 26 0) (T' 27 0) := hw3.cg (fun j hj => by
        obtain ⟨x1, x2⟩ := a10 j hj
        rw [x1, x2, h26, h27]
        exact ⟨rfl, rfl⟩)
      rw [ep]
      by_cases u : s = 7
      · rw [if_pos u]
        obtain ⟨x1, x2, x3, x4⟩ := a11 u
        exact ⟨by simp; exact x3, fun q hq => by cases hq; simp; exact x4, x1, fun q hq => by cases hq; exact x2, wr⟩
      · rw [if_neg u]
        by_cases v : s = 6
        · rw [if_pos v]
          obtain ⟨x1, x2⟩ := a12 v
          exact ⟨x1, fun q hq => by cases hq; exact x2, wr⟩
        · rw [if_neg v]
          exact wr
  unfold j_X9_tree_106
  have h12 : ¬ nI k = 12 := fun e => by have := (nI_eq (b := 12) (by omega) (by decide)).mp e; omega
  have eN : nI (r.length + 1) + -1 = nI r.length := pk_m1 r.length
  rw [if_neg h12, lt_, eN, gd_t (ix_nI (show r.length < 16 by omega) (by decide)), lt_, nI_clamp (show r.length < 2 ^ 31 by omega), hw1]
  cases q with
  | none =>
    simp only
    rw [if_pos (show (-1 : Int32) < 0 from by decide)]
    exact fin T m3 m1 m2 rfl rfl rfl (fun i hi o b' r' hq => by
      by_cases z : i = k
      · subst z
        rw [hpd] at hq
        cases hq
      · exact m4 i (by omega) o b' r' hq) Same.rf OthM.rf
  | some ob =>
    obtain ⟨o, bb⟩ := ob
    have ho : o < k := hpo.2.1 o bb (by rw [hpd]; exact List.mem_cons_self)
    have hB := hw2 (o, bb) rfl
    simp only at hB ⊢
    rw [if_neg (nI_pos (show o < 2 ^ 31 by omega)), gd_t (ix_nI (show r.length < 16 by omega) (by decide)), lt_, hB, nI_add, gd_t (ix_nI (show 12 * c + o < 240 by omega) (by decide)), gd_t (ix_nI (show 12 * c + o < 240 by omega) (by decide)), lt_, lt_, nI_clamp (show 12 * c + o < 2 ^ 31 by omega)]
    have old : ∀ i, i < k → ∀ o' b' r', pend sy i = some (o', b') :: r' → ¬ (o' = o ∧ b' = bb) := by
      intro i hi o' b' r' hq ⟨e1, e2⟩
      subst e1; subst e2
      exact hpo.2.2 i hi _ r' hq (by rw [hpd]; exact List.mem_cons_self)
    cases bb with
    | false =>
      rw [if_pos (show b01 false = 0 from rfl)]
      refine fin (put T 24 0 (12 * c + o) (nI k)) (by rw [put_o rfl, put_o rfl]; exact m3) (by rw [put_o rfl]; exact m1) (by rw [put_o rfl]; exact m2) (put_o rfl) (put_o rfl) (put_o rfl) (fun i hi o' b' r' hq => ?_) (Same.rf.put (by decide)) ⟨fun _ _ => ⟨by rw [put_o rfl], by rw [put_o rfl]⟩, fun j hj => ⟨by rw [put_o rfl], by rw [put_o rfl], put_j (by omega), by rw [put_o rfl]⟩⟩
      by_cases z : i = k
      · subst z
        rw [hpd] at hq
        cases hq
        simp only [show ((false = true) = False) from by simp, if_false]
        exact put_self _ _ _ _ _
      · have h1 := m4 i (by omega) o' b' r' hq
        have h2 := old i (by omega) o' b' r' hq
        cases b' with
        | false =>
          simp only [show ((false = true) = False) from by simp, if_false] at h1 ⊢
          rw [put_j (by
            intro e
            exact h2 ⟨by omega, rfl⟩)]
          exact h1
        | true =>
          simp only [if_true] at h1 ⊢
          rw [put_o rfl]; exact h1
    | true =>
      rw [if_neg (show ¬ b01 true = 0 from by decide)]
      refine fin (put T 25 0 (12 * c + o) (nI k)) (by rw [put_o rfl, put_o rfl]; exact m3) (by rw [put_o rfl]; exact m1) (by rw [put_o rfl]; exact m2) (put_o rfl) (put_o rfl) (put_o rfl) (fun i hi o' b' r' hq => ?_) (Same.rf.put (by decide)) ⟨fun _ _ => ⟨by rw [put_o rfl], by rw [put_o rfl]⟩, fun j hj => ⟨by rw [put_o rfl], by rw [put_o rfl], by rw [put_o rfl], put_j (by omega)⟩⟩
      by_cases z : i = k
      · subst z
        rw [hpd] at hq
        cases hq
        simp only [if_true]
        exact put_self _ _ _ _ _
      · have h1 := m4 i (by omega) o' b' r' hq
        have h2 := old i (by omega) o' b' r' hq
        cases b' with
        | true =>
          simp only [if_true] at h1 ⊢
          rw [put_j (by
            intro e
            exact h2 ⟨by omega, rfl⟩)]
          exact h1
        | false =>
          simp only [show ((false = true) = False) from by simp, if_false] at h1 ⊢
          rw [put_o rfl]; exact h1
