/-! The class's graph: Vertices.add, inverseOf, nandOf .. as steps of the mathematical graph -/
def CG (g : Gr) (S : St) : Prop := S 1 0 6 = nI g.1 ∧ EG g (S 9 0) (S 10 0) (S 11 0)
def FrC (S S' : St) : Prop := Same [(9, 0), (10, 0), (11, 0), (1, 0)] S S' ∧ ∀ j, j ≠ 6 → S' 1 0 j = S 1 0 j
theorem FrC.rf {S : St} : FrC S S := ⟨Same.rf, fun _ _ => rfl⟩
theorem FrC.tr {S S1 S2 : St} (h1 : FrC S S1) (h2 : FrC S1 S2) : FrC S S2 := ⟨h1.1.tr h2.1, fun j hj => (h2.2 j hj).trans (h1.2 j hj)⟩
theorem c_add {g : Gr} {S : St} (hc : CG g S) (hm : g.1 < 160) (t : Nat × Nat × Nat) : ∃ S', f_X7_add (nI t.1) (eO t) (eW t) S = some (nI g.1, S') ∧ CG (gadd g t) S' ∧ FrC S S' := by
  have hix : ix (nI g.1) 160 = true := ix_nI hm (by decide)
  have hlt : nI g.1 < 160 := nI_lt hm (by decide)
  have hcl : (nI g.1).toNatClampNeg = g.1 := nI_clamp (by omega)
  unfold f_X7_add
  simp only [lt_, hc.1, if_pos hlt, hix, gd, hcl]
  refine ⟨_, rfl, ⟨?_, ?_⟩, ?_, ?_⟩
  · simp [put_at, hc.1, gadd, nI_1]
  · intro v hv
    by_cases e : v = g.1
    · subst e
      simp [put_at, gadd]
    · have hv2 : v < g.1 := by simp [gadd] at hv; omega
      have h := hc.2 v hv2
      simp [put_at, gadd, e, h.1, h.2.1, h.2.2]
  · exact (((Same.rf.put (by decide)).put (by decide)).put (by decide)).put (by decide)
  · intro j hj
    simp [put_at, hj]
theorem c_addI {g : Gr} {S : St} (hc : CG g S) (hm : g.1 < 160) (a : Nat) : ∃ S', f_X7_add 1 (nI a) (-4) S = some (nI g.1, S') ∧ CG (gadd g (1, a, 0)) S' ∧ FrC S S' := c_add hc hm (1, a, 0)
theorem c_addN {g : Gr} {S : St} (hc : CG g S) (hm : g.1 < 160) (a b : Nat) : ∃ S', f_X7_add 2 (nI a) (nI b) S = some (nI g.1, S') ∧ CG (gadd g (2, a, b)) S' ∧ FrC S S' := c_add hc hm (2, a, b)
theorem c_add0 {g : Gr} {S : St} (hc : CG g S) (hm : g.1 < 160) : ∃ S', f_X7_add 0 (-4) (-4) S = some (nI g.1, S') ∧ CG (gadd g (0, 0, 0)) S' ∧ FrC S S' := c_add hc hm (0, 0, 0)
theorem nI_inj {a b : Nat} (ha : a < 2 ^ 31) (hb : b < 2 ^ 31) : (nI a = nI b) = (a = b) := propext (nI_eq ha hb)
/-- the loop of inverseOf: from u on, none ahead of it being one -/
theorem c_ivl {g : Gr} {S : St} (hc : CG g S) (hw : wfG g) (hm : g.1 ≤ 160) {a : Nat} (ha : a < g.1) : ∀ (n u : Nat), u ≤ g.1 → g.1 - u < n → (∀ v, v < u → isI a (g.2 v) = false) → l_X7_inverseOf_21 n S (nI a) (nI u) = match gfind (fun v => isI a (g.2 v)) g.1 with
    | some v => some (nI v, S)
    | none => f_X7_add 1 (nI a) (-4) S := by
  intro n
  induction n with
  | zero => intro u _ h; exact absurd h (by omega)
  | succ n ih =>
    intro u hu hn hf
    rw [show l_X7_inverseOf_21 (n + 1) = b_X7_inverseOf_21 (l_X7_inverseOf_21 n) from rfl]
    unfold b_X7_inverseOf_21
    rw [hc.1]
    by_cases e : u = g.1
    · subst e
      rw [if_pos (nI_le (Nat.le_refl _) (by omega)), gfind_none hf]
      cases h : f_X7_add 1 (nI a) (-4) S with
      | none => rfl
      | some q => rfl
    · have hlt : u < g.1 := by omega
      rw [if_neg (nI_ge hlt (by omega))]
      have hix : ix (nI u) 160 = true := ix_nI (by omega) (by decide)
      have hcl : (nI u).toNatClampNeg = u := nI_clamp (by omega)
      obtain ⟨e1, e2, e3⟩ := hc.2 u hlt
      have hwu := hw u hlt
      simp only [hix, gd, hcl, lt_, e1, e2]
      have next : isI a (g.2 u) = false → j_X7_inverseOf_51 (l_X7_inverseOf_21 n) S (nI a) (nI u) = match gfind (fun v => isI a (g.2 v)) g.1 with
          | some v => some (nI v, S)
          | none => f_X7_add 1 (nI a) (-4) S := by
        intro hq
        unfold j_X7_inverseOf_51
        simp only [lt_, nI_1]
        exact ih (u + 1) (by omega) (by omega) (fun v hv => by
          by_cases q : v = u
          · subst q; exact hq
          · exact hf v (by omega))
      have h1 : (nI (g.2 u).1 = 1) = ((g.2 u).1 = 1) := nI_inj (b := 1) (by omega) (by decide)
      by_cases q : (g.2 u).1 = 1
      · have hp : (g.2 u).2.1 < u := hwu.2.1 (by omega)
        have h2 : eO (g.2 u) = nI (g.2 u).2.1 := by simp [eO, q]
        rw [if_pos (by rw [h1]; exact q), h2]
        by_cases r : (g.2 u).2.1 = a
        · rw [if_pos (by rw [r])]
          rw [gfind_at hlt (by simp [isI, q, r]) hf]
        · rw [if_neg (by rw [nI_inj (by omega) (by omega)]; exact r)]
          exact next (by simp [isI, r])
      · rw [if_neg (by rw [h1]; exact q)]
        exact next (by simp [isI, q])
theorem c_iv {g : Gr} {S : St} (hc : CG g S) (hw : wfG g) (hm : g.1 < 160) {a : Nat} (ha : a < g.1) : ∃ S', f_X7_inverseOf (nI a) S = some (nI (giv g a).2, S') ∧ CG (giv g a).1 S' ∧ FrC S S' := by
  have hix : ix (nI a) 160 = true := ix_nI (by omega) (by decide)
  have hcl : (nI a).toNatClampNeg = a := nI_clamp (by omega)
  obtain ⟨e1, e2, e3⟩ := hc.2 a ha
  have hwa := hw a ha
  have h1 : (nI (g.2 a).1 = 1) = ((g.2 a).1 = 1) := nI_inj (b := 1) (by omega) (by decide)
  unfold f_X7_inverseOf
  simp only [hix, gd, hcl, lt_, e1, e2, h1]
  by_cases q : (g.2 a).1 = 1
  · refine ⟨S, ?_, ?_, FrC.rf⟩
    · rw [if_pos q]
      simp [giv, q, eO]
    · simp [giv, q]; exact hc
  · rw [if_neg q, nI_1, c_ivl hc hw (by omega) ha 5000 (a + 1) (by omega) (by omega) (fun v hv => by
      by_cases h : (g.2 v).1 = 1
      · have := (hw v (by omega)).2.1 (by omega)
        simp [isI, show (g.2 v).2.1 ≠ a by omega]
      · simp [isI, h])]
    simp only [giv, if_neg q, gget]
    cases gfind (fun v => isI a (g.2 v)) g.1 with
    | some v => exact ⟨S, rfl, hc, FrC.rf⟩
    | none => exact c_addI hc hm a
theorem c_isOf {g : Gr} {S : St} (hc : CG g S) (hw : wfG g) (hm : g.1 ≤ 160) {a b u : Nat} (ha : a < g.1) (hb : b < g.1) (hu : u < g.1) (h2 : (g.2 u).1 = 2) : f_X7_isOf (nI u) (nI a) (nI b) S = some (b01 (isN a b (g.2 u)), S) := by
  have hix : ix (nI u) 160 = true := ix_nI (by omega) (by decide)
  have hcl : (nI u).toNatClampNeg = u := nI_clamp (by omega)
  obtain ⟨e1, e2, e3⟩ := hc.2 u hu
  have hwu := hw u hu
  have p1 := hwu.2.1 (by omega)
  have p2 := hwu.2.2 h2
  have eo : eO (g.2 u) = nI (g.2 u).2.1 := by simp [eO, h2]
  have ew : eW (g.2 u) = nI (g.2 u).2.2 := by simp [eW, h2]
  have i1 : ∀ c : Nat, c < g.1 → (nI (g.2 u).2.1 = nI c) = ((g.2 u).2.1 = c) := fun c hc => nI_inj (by omega) (by omega)
  have i2 : ∀ c : Nat, c < g.1 → (nI (g.2 u).2.2 = nI c) = ((g.2 u).2.2 = c) := fun c hc => nI_inj (by omega) (by omega)
  unfold f_X7_isOf j_X7_isOf_20 j_X7_isOf_40 j_X7_isOf_44 j_X7_isOf_45
  simp only [hix, gd, hcl, lt_, e2, e3, eo, ew, i1 a ha, i1 b hb, i2 a ha, i2 b hb, show bz 0 = true from by decide, show bz 1 = true from by decide]
  have hN : isN a b (g.2 u) = (((g.2 u).2.1 == a && (g.2 u).2.2 == b) || ((g.2 u).2.1 == b && (g.2 u).2.2 == a)) := by simp [isN, h2]
  rw [hN]
  generalize (g.2 u).2.1 = x
  generalize (g.2 u).2.2 = y
  by_cases q1 : x = a
  · subst q1
    by_cases q2 : y = b
    · subst q2
      simp [b01]
    · by_cases q3 : x = b
      · subst q3
        simp [q2, b01]
      · simp [q2, q3, b01]
  · by_cases q3 : x = b
    · subst q3
      by_cases q4 : y = a
      · subst q4
        simp [q1, b01]
      · simp [q1, q4, b01]
    · simp [q1, q3, b01]
theorem c_ndl {g : Gr} {S : St} (hc : CG g S) (hw : wfG g) (hm : g.1 ≤ 160) {a b : Nat} (ha : a < g.1) (hb : b < g.1) : ∀ (n u : Nat), u ≤ g.1 → g.1 - u < n → (∀ v, v < u → isN a b (g.2 v) = false) → l_X7_nandOf_8 n S (nI a) (nI b) (nI u) = match gfind (fun v => isN a b (g.2 v)) g.1 with
    | some v => some (nI v, S)
    | none => f_X7_add 2 (nI a) (nI b) S := by
  intro n
  induction n with
  | zero => intro u _ h; exact absurd h (by omega)
  | succ n ih =>
    intro u hu hn hf
    rw [show l_X7_nandOf_8 (n + 1) = b_X7_nandOf_8 (l_X7_nandOf_8 n) from rfl]
    unfold b_X7_nandOf_8
    rw [hc.1]
    by_cases e : u = g.1
    · subst e
      rw [if_pos (nI_le (Nat.le_refl _) (by omega)), gfind_none hf]
      cases h : f_X7_add 2 (nI a) (nI b) S with
      | none => rfl
      | some q => rfl
    · have hlt : u < g.1 := by omega
      rw [if_neg (nI_ge hlt (by omega))]
      have hix : ix (nI u) 160 = true := ix_nI (by omega) (by decide)
      have hcl : (nI u).toNatClampNeg = u := nI_clamp (by omega)
      obtain ⟨e1, e2, e3⟩ := hc.2 u hlt
      have hwu := hw u hlt
      simp only [hix, gd, hcl, lt_, e1]
      have next : isN a b (g.2 u) = false → j_X7_nandOf_38 (l_X7_nandOf_8 n) S (nI a) (nI b) (nI u) = match gfind (fun v => isN a b (g.2 v)) g.1 with
          | some v => some (nI v, S)
          | none => f_X7_add 2 (nI a) (nI b) S := by
        intro hq
        unfold j_X7_nandOf_38
        simp only [lt_, nI_1]
        exact ih (u + 1) (by omega) (by omega) (fun v hv => by
          by_cases q : v = u
          · subst q; exact hq
          · exact hf v (by omega))
      have h1 : (nI (g.2 u).1 = 2) = ((g.2 u).1 = 2) := nI_inj (b := 2) (by omega) (by decide)
      by_cases q : (g.2 u).1 = 2
      · rw [if_pos (by rw [h1]; exact q), bi_e (c_isOf hc hw hm ha hb hlt q)]
        cases r : isN a b (g.2 u) with
        | true =>
          rw [gfind_at hlt r hf]
          simp [b01]
        | false =>
          rw [if_pos (by simp [b01])]
          exact next r
      · rw [if_neg (by rw [h1]; exact q)]
        exact next (by simp [isN, q])
theorem c_nd {g : Gr} {S : St} (hc : CG g S) (hw : wfG g) (hm : g.1 < 160) {a b : Nat} (ha : a < g.1) (hb : b < g.1) : ∃ S', f_X7_nandOf (nI a) (nI b) S = some (nI (gnd g a b).2, S') ∧ CG (gnd g a b).1 S' ∧ FrC S S' := by
  have hmax : (if nI a < nI b then nI b else nI a) = nI (max a b) := by
    by_cases h : a < b
    · rw [if_pos (nI_lt h (by omega)), Nat.max_eq_right (by omega)]
    · rw [if_neg (nI_nlt (by omega) (by omega)), Nat.max_eq_left (by omega)]
  unfold f_X7_nandOf
  simp only [lt_, hmax, nI_1]
  rw [c_ndl hc hw (by omega) ha hb 5000 (max a b + 1) (by omega) (by omega) (fun v hv => by
    by_cases h : (g.2 v).1 = 2
    · have h1 := (hw v (by omega)).2.1 (by omega)
      have h2 := (hw v (by omega)).2.2 h
      have : isN a b (g.2 v) = false := by
        unfold isN
        by_cases q1 : (g.2 v).2.1 = a <;> by_cases q2 : (g.2 v).2.2 = b <;> by_cases q3 : (g.2 v).2.1 = b <;> by_cases q4 : (g.2 v).2.2 = a <;> simp [q1, q2, q3, q4] <;> omega
      exact this
    · simp [isN, h])]
  simp only [gnd, gget]
  cases gfind (fun v => isN a b (g.2 v)) g.1 with
  | some v => exact ⟨S, rfl, hc, FrC.rf⟩
  | none => exact c_addN hc hm a b
