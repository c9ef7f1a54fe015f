/-! THE NET as a mathematical value: of each node its kind (7: INPUT) and its parts, 0 where they are not looked at; the graph that comes of the first k nodes -/
abbrev Nd : Type := Nat → Nat × Nat × Nat × Nat
def nstep (g : Gr) (vo : Nat → Nat) (q : Nat × Nat × Nat × Nat) : Gr × Nat := if q.1 = 7 then (gadd g (0, 0, 0), g.1) else ggate q.1 g (vo q.2.1) (vo q.2.2.1) (vo q.2.2.2)
def bld (N : Nd) : Nat → Gr × (Nat → Nat)
  | 0 => ((0, fun _ => (0, 0, 0)), fun _ => 0)
  | k + 1 => ((nstep (bld N k).1 (bld N k).2 (N k)).1, fun j => if j = k then (nstep (bld N k).1 (bld N k).2 (N k)).2 else (bld N k).2 j)
def wfN (N : Nd) (n : Nat) : Prop := ∀ k, k < n → (N k).1 ≤ 7 ∧ ((N k).1 ≠ 7 → (N k).2.1 < k ∧ (N k).2.2.1 < k ∧ (N k).2.2.2 < k)
theorem bld_vo (N : Nd) {j : Nat} : ∀ {k : Nat}, j < k → (bld N k).2 j = (bld N (j + 1)).2 j
  | 0, h => absurd h (by omega)
  | k + 1, h => by
    by_cases e : j = k
    · subst e; rfl
    · rw [← bld_vo N (k := k) (by omega)]
      simp [bld, e]
theorem nstep_stp {g : Gr} {vo : Nat → Nat} {q : Nat × Nat × Nat × Nat} (h : wfG g) (h1 : q.1 ≠ 7 → vo q.2.1 < g.1 ∧ vo q.2.2.1 < g.1 ∧ vo q.2.2.2 < g.1) : GSt 4 g (nstep g vo q) := by
  unfold nstep
  by_cases e : q.1 = 7
  · rw [if_pos e]
    exact ⟨⟨(gadd_ext _ _).1, by simp [gadd], (gadd_ext _ _).2.2⟩, wf_gadd h (by decide) (fun q => absurd rfl q) (fun q => absurd q (by decide)), by simp [gadd]⟩
  · rw [if_neg e]
    obtain ⟨a, b, c⟩ := h1 e
    exact ggate_stp h a b c
theorem bld_ok {N : Nd} {n : Nat} (h : wfN N n) : ∀ {k : Nat}, k ≤ n → wfG (bld N k).1 ∧ (bld N k).1.1 ≤ 4 * k ∧ ∀ j, j < k → (bld N k).2 j < (bld N k).1.1
  | 0, _ => ⟨fun v hv => absurd hv (by simp [bld]), by simp [bld], fun j hj => absurd hj (by omega)⟩
  | k + 1, hk => by
    obtain ⟨h1, h2, h3⟩ := bld_ok h (k := k) (by omega)
    have hs : GSt 4 (bld N k).1 (nstep (bld N k).1 (bld N k).2 (N k)) := nstep_stp h1 (fun e => by
      obtain ⟨a, b, c⟩ := (h k (by omega)).2 e
      exact ⟨h3 _ a, h3 _ b, h3 _ c⟩)
    refine ⟨hs.2.1, ?_, ?_⟩
    · have := hs.1.2.1
      show (nstep (bld N k).1 (bld N k).2 (N k)).1.1 ≤ 4 * (k + 1)
      omega
    · intro j hj
      show (if j = k then _ else _) < (nstep (bld N k).1 (bld N k).2 (N k)).1.1
      by_cases e : j = k
      · rw [if_pos e]; exact hs.2.2
      · rw [if_neg e]; exact Nat.lt_of_lt_of_le (h3 j (by omega)) hs.1.1
theorem bld_ext {N : Nd} {n : Nat} (h : wfN N n) {k : Nat} (hk : k < n) : Ext 4 (bld N k).1 (bld N (k + 1)).1 := by
  obtain ⟨h1, h2, h3⟩ := bld_ok h (k := k) (by omega)
  exact (nstep_stp h1 (fun e => by
      obtain ⟨a, b, c⟩ := (h k (by omega)).2 e
      exact ⟨h3 _ a, h3 _ b, h3 _ c⟩)).1
/-- the graph of more nodes begins with that of fewer -/
theorem bld_pre {N : Nd} {n : Nat} (h : wfN N n) {j : Nat} : ∀ {k : Nat}, j ≤ k → k ≤ n → (bld N j).1.1 ≤ (bld N k).1.1 ∧ ∀ v, v < (bld N j).1.1 → (bld N k).1.2 v = (bld N j).1.2 v
  | 0, h1, _ => by
    have e : j = 0 := by omega
    subst e
    exact ⟨Nat.le_refl _, fun _ _ => rfl⟩
  | k + 1, h1, h2 => by
    by_cases e : j = k + 1
    · subst e
      exact ⟨Nat.le_refl _, fun _ _ => rfl⟩
    · obtain ⟨a, b⟩ := bld_pre (j := j) h (k := k) (by omega) (by omega)
      obtain ⟨c, -, d⟩ := bld_ext h (k := k) (by omega)
      exact ⟨by omega, fun v hv => (d v (by omega)).trans (b v hv)⟩
theorem bld_congr {N N' : Nd} : ∀ {k : Nat}, (∀ j, j < k → N' j = N j) → bld N' k = bld N k
  | 0, _ => rfl
  | k + 1, h => by
    rw [bld, bld, bld_congr (k := k) (fun j hj => h j (by omega)), h k (by omega)]
/-- what the reference's rows hold of the net -/
def NM (N : Nd) (n : Nat) (T : St) : Prop := T 0 0 0 = nI n ∧ ∀ k, k < n → T 1 0 k = (if (N k).1 = 7 then -1 else nI (N k).1) ∧ ((N k).1 ≠ 7 → T 2 0 k = nI (N k).2.1) ∧ ((N k).1 ≠ 7 → (N k).1 ≠ 0 → T 3 0 k = nI (N k).2.2.1) ∧ ((N k).1 = 6 → T 4 0 k = nI (N k).2.2.2)
def FrM1 (T T' : St) : Prop := Same [(8, 0), (9, 0), (10, 0), (11, 0), (0, 0)] T T' ∧ ∀ j, j ≠ 11 → T' 0 0 j = T 0 0 j
theorem FrM1.rf {T : St} : FrM1 T T := ⟨Same.rf, fun _ _ => rfl⟩
theorem FrM1.tr {T T1 T2 : St} (h1 : FrM1 T T1) (h2 : FrM1 T1 T2) : FrM1 T T2 := ⟨h1.1.tr h2.1, fun j hj => (h2.2 j hj).trans (h1.2 j hj)⟩
theorem FrM.up {T T' : St} (h : FrM T T') : FrM1 T T' := ⟨h.1.mono (by decide), h.2⟩
theorem NM.fr {N : Nd} {n : Nat} {T T' : St} (h : NM N n T) (f : FrM1 T T') : NM N n T' := by
  have r : ∀ k, k = 1 ∨ k = 2 ∨ k = 3 ∨ k = 4 → T' k 0 = T k 0 := fun k hk => f.1 k 0 (by rcases hk with rfl | rfl | rfl | rfl <;> decide)
  refine ⟨by rw [f.2 0 (by decide)]; exact h.1, fun k hk => ?_⟩
  rw [r 1 (by simp), r 2 (by simp), r 3 (by simp), r 4 (by simp)]
  exact h.2 k hk
theorem ggate_irr {k : Nat} {g : Gr} {a b c b' c' : Nat} (hb : k ≠ 0 → b = b') (hc : k = 6 → c = c') (hk : k ≤ 6) : ggate k g a b c = ggate k g a b' c' := by
  match k, hk with
  | 0, _ => rfl
  | 1, _ => rw [hb (by decide)]; rfl
  | 2, _ => rw [hb (by decide)]; rfl
  | 3, _ => rw [hb (by decide)]; rfl
  | 4, _ => rw [hb (by decide)]; rfl
  | 5, _ => rw [hb (by decide)]; rfl
  | 6, _ => rw [hb (by decide), hc rfl]
theorem m_mk1 {N : Nd} {n : Nat} (hn : n ≤ 40) (hN : wfN N n) (K : St → Option St) : ∀ (f k : Nat) (T : St), k ≤ n → n - k < f → MG (bld N k).1 T → (∀ j, j < k → T 11 0 j = nI ((bld N k).2 j)) → NM N n T → ∃ T', l_X9_make_7 K f T (nI k) = K T' ∧ MG (bld N n).1 T' ∧ (∀ j, j < n → T' 11 0 j = nI ((bld N n).2 j)) ∧ FrM1 T T' := by
  intro f
  induction f with
  | zero => intro k T _ h; exact absurd h (by omega)
  | succ f ih =>
    intro k T hk hf hG hV hM
    rw [show l_X9_make_7 K (f + 1) = b_X9_make_7 (l_X9_make_7 K f) K from rfl]
    unfold b_X9_make_7
    rw [hM.1]
    by_cases e : k = n
    · subst e
      rw [if_pos (nI_le (Nat.le_refl _) (by omega))]
      exact ⟨T, rfl, hG, hV, FrM1.rf⟩
    · have hlt : k < n := by omega
      rw [if_neg (nI_ge hlt (by omega))]
      have hix : ix (nI k) 40 = true := ix_nI (by omega) (by decide)
      have hcl : (nI k).toNatClampNeg = k := nI_clamp (by omega)
      obtain ⟨w1, w2, w3⟩ := bld_ok hN (k := k) (by omega)
      obtain ⟨hk7, hp⟩ := hN k hlt
      obtain ⟨e1, e2, e3, e4⟩ := hM.2 k hlt
      -- behind the step: the row of vertexOf, and on
      have last : ∀ T1, OkM T (some (nI (nstep (bld N k).1 (bld N k).2 (N k)).2, T1)) (nstep (bld N k).1 (bld N k).2 (N k)) → ∃ T', j_X9_make_112 (l_X9_make_7 K f) K T1 (nI k) (nI k) (nI (nstep (bld N k).1 (bld N k).2 (N k)).2) = K T' ∧ MG (bld N n).1 T' ∧ (∀ j, j < n → T' 11 0 j = nI ((bld N n).2 j)) ∧ FrM1 T T' := by
        intro T1 ⟨T2, q1, q2, q3⟩
        cases q1
        unfold j_X9_make_112
        simp only [hix, gd, hcl, lt_, nI_1]
        have f1 : FrM1 T1 (put T1 11 0 k (nI (nstep (bld N k).1 (bld N k).2 (N k)).2)) := ⟨Same.rf.put (by decide), fun j _ => by rw [put_o rfl]⟩
        obtain ⟨T', r1, r2, r3, r4⟩ := ih (k + 1) (put T1 11 0 k (nI (nstep (bld N k).1 (bld N k).2 (N k)).2)) (by omega) (by omega)
          ⟨by rw [put_o rfl]; exact q2.1, by rw [put_o rfl, put_o rfl, put_o rfl]; exact q2.2⟩
          (fun j hj => by
            rw [put_jj]
            by_cases z : j = k
            · rw [if_pos z]; simp [bld, z]
            · rw [if_neg z, q3.1 11 0 (by decide), hV j (by omega)]; simp [bld, z])
          ((hM.fr q3.up).fr f1)
        exact ⟨T', r1, r2, r3, (q3.up.tr f1).tr r4⟩
      simp only [hix, gd, hcl, lt_]
      by_cases q : (N k).1 = 7
      · have hv : T 1 0 k = -1 := by rw [e1, if_pos q]
        rw [hv, if_neg (by decide)]
        obtain ⟨T1, a1, a2, a3⟩ := m_add0 hG (by omega)
        rw [bi_e a1]
        have hs : nstep (bld N k).1 (bld N k).2 (N k) = (gadd (bld N k).1 (0, 0, 0), (bld N k).1.1) := by unfold nstep; rw [if_pos q]
        have := last T1
        rw [hs] at this
        exact this ⟨T1, rfl, a2, a3⟩
      · have hv : T 1 0 k = nI (N k).1 := by rw [e1, if_neg q]
        obtain ⟨pa, pb, pc⟩ := hp q
        have va := hV _ pa
        rw [hv, if_pos (nI_pos' (by omega)), e2 q]
        have ixa : ix (nI (N k).2.1) 40 = true := ix_nI (by omega) (by decide)
        have cla : (nI (N k).2.1).toNatClampNeg = (N k).2.1 := nI_clamp (by omega)
        simp only [ixa, gd, cla, va]
        have hs : nstep (bld N k).1 (bld N k).2 (N k) = ggate (N k).1 (bld N k).1 ((bld N k).2 (N k).2.1) ((bld N k).2 (N k).2.2.1) ((bld N k).2 (N k).2.2.2) := by unfold nstep; rw [if_neg q]
        -- the end of both ways
        have fin : ∀ b c : Nat, ((N k).1 ≠ 0 → b = (bld N k).2 (N k).2.2.1) → ((N k).1 = 6 → c = (bld N k).2 (N k).2.2.2) → ∃ T', j_X9_make_109 (l_X9_make_7 K f) K T (nI k) (nI k) (nI (N k).1) (nI ((bld N k).2 (N k).2.1)) (nI b) (nI c) = K T' ∧ MG (bld N n).1 T' ∧ (∀ j, j < n → T' 11 0 j = nI ((bld N n).2 j)) ∧ FrM1 T T' := by
          intro b c hb hc
          unfold j_X9_make_109
          obtain ⟨T1, a1, a2, a3⟩ := m_gate hG w1 (by omega) (k := (N k).1) (a := (bld N k).2 (N k).2.1) (b := b) (d := c) (by omega) (w3 _ pa) (fun z => by rw [hb z]; exact w3 _ pb) (fun z => by rw [hc z]; exact w3 _ pc)
          rw [bi_e a1]
          have hi := ggate_irr (g := (bld N k).1) (a := (bld N k).2 (N k).2.1) hb hc (by omega)
          rw [hi] at a2 ⊢
          have := last T1
          rw [hs] at this
          exact this ⟨T1, rfl, a2, a3⟩
        have j83 : ∀ b : Nat, ((N k).1 ≠ 0 → b = (bld N k).2 (N k).2.2.1) → ∃ T', j_X9_make_83 (l_X9_make_7 K f) K T (nI k) (nI k) (nI (N k).1) (nI ((bld N k).2 (N k).2.1)) (nI b) = K T' ∧ MG (bld N n).1 T' ∧ (∀ j, j < n → T' 11 0 j = nI ((bld N n).2 j)) ∧ FrM1 T T' := by
          intro b hb
          unfold j_X9_make_83
          simp only [hix, gd, hcl, lt_, hv]
          by_cases z : (N k).1 = 6
          · have ixc : ix (nI (N k).2.2.2) 40 = true := ix_nI (by omega) (by decide)
            have clc : (nI (N k).2.2.2).toNatClampNeg = (N k).2.2.2 := nI_clamp (by omega)
            rw [if_pos (by rw [z]; decide), e4 z]
            simp only [ixc, gd, clc, hV _ pc]
            exact fin b _ hb (fun _ => rfl)
          · rw [if_neg (show ¬ (6 : Int32) ≤ nI (N k).1 from nI_ge (b := 6) (show (N k).1 < 6 by omega) (by decide))]
            exact fin b 0 hb (fun y => absurd y z)
        have h0 : (nI (N k).1 = 0) = ((N k).1 = 0) := nI_inj (b := 0) (by omega) (by decide)
        simp only [h0]
        by_cases z : (N k).1 = 0
        · rw [if_pos z]
          exact j83 0 (fun y => absurd z y)
        · rw [if_neg z, e3 q z]
          have ixb : ix (nI (N k).2.2.1) 40 = true := ix_nI (by omega) (by decide)
          have clb : (nI (N k).2.2.1).toNatClampNeg = (N k).2.2.1 := nI_clamp (by omega)
          simp only [ixb, gd, clb, hV _ pb]
          exact j83 _ (fun _ => rfl)
