/-! How the reference reads a tree: what waits for its parts, and where they come to lie -/
def pend (sy : Nat → Nat) : Nat → List (Option (Nat × Bool))
  | 0 => [none]
  | k + 1 => match pend sy k with
    | [] => []
    | _ :: r => if sy k = 7 then some (k, false) :: some (k, true) :: r else if sy k = 6 then some (k, false) :: r else r
theorem pend_cg {sy sy' : Nat → Nat} : ∀ {k : Nat}, (∀ i, i < k → sy' i = sy i) → pend sy' k = pend sy k
  | 0, _ => rfl
  | k + 1, h => by rw [pend, pend, pend_cg (fun i hi => h i (by omega)), h k (by omega)]
/-- what waits is told once, comes of symbols that were read, and does not come again -/
theorem pend_ok (sy : Nat → Nat) : ∀ (k : Nat), (pend sy k).Nodup ∧ (∀ o b, some (o, b) ∈ pend sy k → o < k) ∧ ∀ i, i < k → ∀ q r, pend sy i = q :: r → q ∉ pend sy k
  | 0 => ⟨by simp [pend], fun o b h => by simp [pend] at h, fun i hi => absurd hi (by omega)⟩
  | k + 1 => by
    obtain ⟨h1, h2, h3⟩ := pend_ok sy k
    cases hp : pend sy k with
    | nil =>
      have e : pend sy (k + 1) = [] := by rw [pend, hp]
      rw [e]
      exact ⟨List.nodup_nil, fun o b h => by simp at h, fun i hi q r hq => by simp⟩
    | cons q0 r0 =>
      rw [hp] at h1 h2
      have h1' := List.nodup_cons.mp h1
      -- in the rest, or new
      have mem : ∀ q, q ∈ pend sy (k + 1) → q ∈ r0 ∨ ∃ b, q = some (k, b) := by
        intro q hq
        rw [pend, hp] at hq
        simp only at hq
        split at hq
        · rcases List.mem_cons.mp hq with e | hq
          · exact Or.inr ⟨_, e⟩
          · rcases List.mem_cons.mp hq with e | hq
            · exact Or.inr ⟨_, e⟩
            · exact Or.inl hq
        · split at hq
          · rcases List.mem_cons.mp hq with e | hq
            · exact Or.inr ⟨_, e⟩
            · exact Or.inl hq
          · exact Or.inl hq
      have nw : ∀ b, some (k, b) ∉ r0 := fun b hb => by
        have := h2 k b (List.mem_cons_of_mem _ hb)
        omega
      refine ⟨?_, fun o b hb => ?_, fun i hi q r hq hm => ?_⟩
      · rw [pend, hp]
        simp only
        split
        · refine List.nodup_cons.mpr ⟨?_, List.nodup_cons.mpr ⟨nw true, h1'.2⟩⟩
          intro h
          rcases List.mem_cons.mp h with e | h
          · simp at e
          · exact nw false h
        · split
          · exact List.nodup_cons.mpr ⟨nw false, h1'.2⟩
          · exact h1'.2
      · rcases mem _ hb with h | ⟨b', h⟩
        · have := h2 o b (List.mem_cons_of_mem _ h)
          omega
        · cases h
          omega
      · rcases mem _ hm with h | ⟨b', h⟩
        · by_cases e : i = k
          · subst e
            rw [hp] at hq
            cases hq
            exact h1'.1 h
          · exact h3 i (by omega) q r hq (by rw [hp]; exact List.mem_cons_of_mem _ h)
        · subst h
          have hm2 : some (k, b') ∈ pend sy i := by rw [hq]; exact List.mem_cons_self
          have := (pend_ok sy i).2.1 k b' hm2
          omega
  termination_by k => k
theorem pend_len {sy : Nat → Nat} {k : Nat} (h : pend sy k ≠ []) : (pend sy (k + 1)).length = nxd (sy k) (pend sy k).length := by
  cases hp : pend sy k with
  | nil => exact absurd hp h
  | cons q r =>
    rw [pend, hp]
    unfold nxd
    simp only
    split
    · simp
    · split <;> simp
theorem pend_le (sy : Nat → Nat) : ∀ (k : Nat), (pend sy k).length ≤ k + 1
  | 0 => Nat.le_refl 1
  | k + 1 => by
    have ih := pend_le sy k
    rw [pend]
    cases hp : pend sy k with
    | nil => simp
    | cons q r =>
      rw [hp] at ih
      simp at ih
      simp only
      split
      · simp; omega
      · split <;> simp <;> omega
/-- the row of what waits -/
def WS : List (Option (Nat × Bool)) → (Nat → Int32) → (Nat → Int32) → Prop
  | [], _, _ => True
  | e :: r, A, B => (A r.length = match e with
      | none => -1
      | some q => nI q.1) ∧ (∀ q, e = some q → B r.length = b01 q.2) ∧ WS r A B
theorem WS.cg : ∀ {L : List (Option (Nat × Bool))} {A B A' B' : Nat → Int32}, WS L A B → (∀ j, j < L.length → A' j = A j ∧ B' j = B j) → WS L A' B'
  | [], _, _, _, _, _, _ => trivial
  | e :: r, _, _, _, _, h, hj => ⟨by rw [(hj _ (by simp)).1]; exact h.1, by rw [(hj _ (by simp)).2]; exact h.2.1, h.2.2.cg (fun j q => hj j (by simp; omega))⟩
def sgn (s : Nat) : Int32 := if s = 7 then 2 else if s = 6 then 1 else 3
def ltr (s : Nat) : Int32 := if s < 6 then nI s else 0
/-- where the parts of a symbol lie -/
def TrM (c : Nat) (sy : Nat → Nat) (k : Nat) (T : St) : Prop := ∀ i, i < k → ∀ o b r, pend sy i = some (o, b) :: r → T (if b then 25 else 24) 0 (12 * c + o) = nI i
def ML (c k : Nat) (sy : Nat → Nat) (T : St) : Prop := T 20 0 c = nI (nns sy k) ∧ T 21 0 c = pbs sy k ∧ (∀ i, i < k → T 22 0 (12 * c + i) = sgn (sy i) ∧ T 23 0 (12 * c + i) = ltr (sy i)) ∧ TrM c sy k T
theorem ML.cg {c k : Nat} {sy : Nat → Nat} {T T' : St} (h : ML c k sy T) (hk : Keep [(20, 0), (21, 0), (22, 0), (23, 0), (24, 0), (25, 0)] T T') : ML c k sy T' := by
  obtain ⟨a1, a2, a3, a4⟩ := h
  refine ⟨by rw [hk.at 20 0 (by decide)]; exact a1, by rw [hk.at 21 0 (by decide)]; exact a2, by rw [hk.at 22 0 (by decide), hk.at 23 0 (by decide)]; exact a3, fun i hi o b r hq => ?_⟩
  have := a4 i hi o b r hq
  cases b
  · simp only [show ((false = true) = False) from by simp, if_false] at this ⊢
    rw [hk.at 24 0 (by decide)]; exact this
  · simp only [if_true] at this ⊢
    rw [hk.at 25 0 (by decide)]; exact this
theorem i32_or0 (x : Int32) : x ||| 0 = x := by
  apply Int32.toBitVec_inj.mp
  simp
/-- one symbol more: the rows of sign, letter, pins, nands; what waits -/
theorem m_push {c k s : Nat} {sy : Nat → Nat} {T : St} {b : Int32} (kb : St → Int32 → Int32 → Int32 → Int32 → Option St) (K : St → Int32 → Int32 → Option St) (hc : c < 20) (hk : k < 12) {w : Nat} (hw : w ≤ 12) (hs7 : s ≤ 7) (hb7 : (b = 78) = (s = 7)) (hb6 : (b = 73) = (s = 6)) (hbp : s < 6 → b - 97 = nI s) {x6 : Int32} (h6 : x6 = b01 (decide (s < 6))) (hN : T 20 0 c = nI (nns sy k)) (hPn : T 21 0 c = pbs sy k) (hR : ∀ i, i < k → T 22 0 (12 * c + i) = sgn (sy i) ∧ T 23 0 (12 * c + i) = ltr (sy i)) {p : Nat} (hp : T 0 0 33 = nI p) : ∃ T', j_X9_tree_174 kb K T (nI c) (nI (12 * c)) (nI k) (nI w) b x6 = kb T' (nI c) (nI (12 * c)) (nI (k + 1)) (nI (w + (if s = 7 then 2 else if s = 6 then 1 else 0))) ∧ T' 20 0 c = nI (nns (updN sy k s) (k + 1)) ∧ T' 21 0 c = pbs (updN sy k s) (k + 1) ∧ (∀ i, i < k + 1 → T' 22 0 (12 * c + i) = sgn (updN sy k s i) ∧ T' 23 0 (12 * c + i) = ltr (updN sy k s i)) ∧ T' 0 0 33 = nI (p + 1) ∧ (∀ j, j ≠ 33 → T' 0 0 j = T 0 0 j) ∧ Same [(0, 0), (20, 0), (21, 0), (22, 0), (23, 0), (26, 0), (27, 0)] T T' ∧ (∀ j, j ≠ c → T' 20 0 j = T 20 0 j ∧ T' 21 0 j = T 21 0 j) ∧ (∀ j, ¬ (12 * c ≤ j ∧ j < 12 * c + 12) → T' 22 0 j = T 22 0 j ∧ T' 23 0 j = T 23 0 j) ∧ (∀ j, j < w → T' 26 0 j = T 26 0 j ∧ T' 27 0 j = T 27 0 j) ∧ (s = 7 → T' 26 0 w = nI k ∧ T' 27 0 w = 1 ∧ T' 26 0 (w + 1) = nI k ∧ T' 27 0 (w + 1) = 0) ∧ (s = 6 → T' 26 0 w = nI k ∧ T' 27 0 w = 0) := by
  have ixk : ix (nI (12 * c + k)) 240 = true := ix_nI (by omega) (by decide)
  have clk : (nI (12 * c + k)).toNatClampNeg = 12 * c + k := nI_clamp (by omega)
  have ixc : ix (nI c) 20 = true := ix_nI hc (by decide)
  have clc : (nI c).toNatClampNeg = c := nI_clamp (by omega)
  have ixw : ix (nI w) 16 = true := ix_nI (by omega) (by decide)
  have clw : (nI w).toNatClampNeg = w := nI_clamp (by omega)
  have ixw1 : ix (nI (w + 1)) 16 = true := ix_nI (by omega) (by decide)
  have clw1 : (nI (w + 1)).toNatClampNeg = w + 1 := nI_clamp (by omega)
  have p1 : pbs (updN sy k s) k = pbs sy k := pbs_cg (fun i hi => updN_lt hi)
  have n1 : nns (updN sy k s) k = nns sy k := nns_cg (fun i hi => updN_lt hi)
  have n2 : nns (updN sy k s) (k + 1) = nns sy k + (if s = 7 then 1 else 0) := by
    unfold nns at n1 ⊢
    rw [ctB, n1, updN_at]
    by_cases z : s = 7 <;> simp [z]
  have p2 : pbs (updN sy k s) (k + 1) = if s < 6 then pbs sy k ||| ((1 : Int32) <<< (nI s &&& 31)) else pbs sy k := by
    rw [pbs, p1, updN_at]
  have row : ∀ T' : St, (∀ i, T' 22 0 i = put T 22 0 (12 * c + k) (sgn s) 22 0 i) → (∀ i, T' 23 0 i = put T 23 0 (12 * c + k) (ltr s) 23 0 i) → ∀ i, i < k + 1 → T' 22 0 (12 * c + i) = sgn (updN sy k s i) ∧ T' 23 0 (12 * c + i) = ltr (updN sy k s i) := by
    intro T' h22 h23 i hi
    rw [h22, h23, put_jj, put_jj]
    by_cases z : i = k
    · rw [if_pos (by omega), if_pos (by omega), z, updN_at]; exact ⟨rfl, rfl⟩
    · rw [if_neg (by omega), if_neg (by omega), updN_lt (by omega)]; exact hR i (by omega)
  unfold j_X9_tree_174 j_X9_tree_204 j_X9_tree_226 j_X9_tree_250 j_X9_tree_288 j_X9_tree_312 j_X9_tree_325
  subst h6
  by_cases u : s = 7
  · have c7 : b = 78 := by rw [hb7]; exact u
    have c6 : b01 (decide (s < 6)) = 0 := by rw [b01_0]; exact decide_eq_false (by omega)
    rw [if_pos c7]
    simp only [nI_add, ixk, clk, ixc, clc, gd, lt_, if_pos c6, if_pos c7, ixw, clw, nz_1, nz_0, nI_1, ixw1, clw1]
    refine ⟨_, by rw [if_pos u], ?_, ?_, row _ ?_ ?_, ?_, ?_, ?_, ?_, ?_, ?_, ?_, ?_⟩
    · rw [n2, if_pos u]; simp [put_at, hN, nI_1]
    · rw [p2, if_neg (by omega)]; simp [put_at, hPn, i32_or0]
    · intro i; simp [put_at, sgn, u]
    · intro i; simp [put_at, ltr, u]
    · simp [put_at, hp, nI_1]
    · intro j hj; simp [put_at, hj]
    · exact ((((((((((Same.rf.put (by decide)).put (by decide)).put (by decide)).put (by decide)).put (by decide)).put (by decide)).put (by decide)).put (by decide)).put (by decide)))
    · intro j hj; simp [put_at, hj]
    · intro j hj; simp [put_at, show j ≠ 12 * c + k by omega]
    · intro j hj; simp [put_at, show j ≠ w by omega, show j ≠ w + 1 by omega]
    · intro _; simp [put_at]
    · intro h; omega
  · have c7 : ¬ b = 78 := by rw [hb7]; exact u
    rw [if_neg c7]
    by_cases v : s = 6
    · have c73 : b = 73 := by rw [hb6]; exact v
      have c6 : b01 (decide (s < 6)) = 0 := by rw [b01_0]; exact decide_eq_false (by omega)
      rw [if_pos c73]
      simp only [nI_add, ixk, clk, ixc, clc, gd, lt_, if_pos c6, if_neg c7, ixw, clw, nz_0, nI_1]
      refine ⟨_, by rw [if_neg u, if_pos v], ?_, ?_, row _ ?_ ?_, ?_, ?_, ?_, ?_, ?_, ?_, ?_, ?_⟩
      · rw [n2, if_neg u]; simp [put_at, hN]
      · rw [p2, if_neg (by omega)]; simp [put_at, hPn, i32_or0]
      · intro i; simp [put_at, sgn, v]
      · intro i; simp [put_at, ltr, v]
      · simp [put_at, hp, nI_1]
      · intro j hj; simp [put_at, hj]
      · exact (((((((Same.rf.put (by decide)).put (by decide)).put (by decide)).put (by decide)).put (by decide)).put (by decide)))
      · intro j hj; simp [put_at, hj]
      · intro j hj; simp [put_at, show j ≠ 12 * c + k by omega]
      · intro j hj; simp [put_at, show j ≠ w by omega]
      · intro h; omega
      · intro _; simp [put_at]
    · have c73 : ¬ b = 73 := by rw [hb6]; exact v
      have hs6 : s < 6 := by omega
      have c6 : ¬ b01 (decide (s < 6)) = 0 := by rw [b01_0]; simp [hs6]
      rw [if_neg c73]
      simp only [nI_add, ixk, clk, ixc, clc, gd, lt_, if_neg c6, if_neg c7, hbp hs6, nI_1]
      refine ⟨_, by rw [if_neg u, if_neg v]; rfl, ?_, ?_, row _ ?_ ?_, ?_, ?_, ?_, ?_, ?_, ?_, ?_, ?_⟩
      · rw [n2, if_neg u]; simp [put_at, hN]
      · rw [p2, if_pos hs6]; simp [put_at, hPn]
      · intro i; simp [put_at, sgn, u, v]
      · intro i; simp [put_at, ltr, hs6]
      · simp [put_at, hp, nI_1]
      · intro j hj; simp [put_at, hj]
      · exact ((((Same.rf.put (by decide)).put (by decide)).put (by decide)).put (by decide))
      · intro j hj; simp [put_at, hj]
      · intro j hj; simp [put_at, show j ≠ 12 * c + k by omega]
      · intro j hj; simp [put_at]
      · intro h; omega
      · intro h; omega
