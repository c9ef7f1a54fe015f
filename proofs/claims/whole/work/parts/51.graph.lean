/-! THE GRAPH as a mathematical value: how many vertices; of each what it is (0 INPUT, 1 I, 2 N) and its parts. -/
abbrev Gr : Type := Nat × (Nat → Nat × Nat × Nat)
def gadd (g : Gr) (t : Nat × Nat × Nat) : Gr := (g.1 + 1, fun v => if v = g.1 then t else g.2 v)
/-- the first number below n of which p holds -/
def gfind (p : Nat → Bool) : Nat → Option Nat
  | 0 => none
  | n + 1 => match gfind p n with
    | some v => some v
    | none => if p n then some n else none
theorem gfind_none {p : Nat → Bool} : ∀ {n : Nat}, (∀ v, v < n → p v = false) → gfind p n = none
  | 0, _ => rfl
  | n + 1, h => by
    rw [gfind, gfind_none (fun v hv => h v (by omega))]
    simp [h n (by omega)]
theorem gfind_at {p : Nat → Bool} : ∀ {n v : Nat}, v < n → p v = true → (∀ u, u < v → p u = false) → gfind p n = some v
  | 0, v, h, _, _ => absurd h (by omega)
  | n + 1, v, h, hp, hu => by
    rw [gfind]
    by_cases e : v < n
    · rw [gfind_at e hp hu]
    · have e2 : v = n := by omega
      subst e2
      rw [gfind_none hu]
      simp [hp]
theorem gfind_spec {p : Nat → Bool} : ∀ {n v : Nat}, gfind p n = some v → v < n ∧ p v = true
  | 0, v, h => by cases h
  | n + 1, v, h => by
    rw [gfind] at h
    cases e : gfind p n with
    | some u =>
      rw [e] at h
      cases h
      obtain ⟨h1, h2⟩ := gfind_spec e
      exact ⟨by omega, h2⟩
    | none =>
      rw [e] at h
      by_cases hp : p n = true
      · simp [hp] at h
        subst h
        exact ⟨by omega, hp⟩
      · simp [hp] at h
def gget (g : Gr) (p : Nat → Bool) (t : Nat × Nat × Nat) : Gr × Nat := match gfind p g.1 with
  | some v => (g, v)
  | none => (gadd g t, g.1)
def isN (a b : Nat) (t : Nat × Nat × Nat) : Bool := t.1 == 2 && ((t.2.1 == a && t.2.2 == b) || (t.2.1 == b && t.2.2 == a))
def isI (a : Nat) (t : Nat × Nat × Nat) : Bool := t.1 == 1 && t.2.1 == a
def gnd (g : Gr) (a b : Nat) : Gr × Nat := gget g (fun v => isN a b (g.2 v)) (2, a, b)
def giv (g : Gr) (a : Nat) : Gr × Nat := if (g.2 a).1 = 1 then (g, (g.2 a).2.1) else gget g (fun v => isI a (g.2 v)) (1, a, 0)
def gor (g : Gr) (a b : Nat) : Gr × Nat := gnd (giv (giv g a).1 b).1 (giv g a).2 (giv (giv g a).1 b).2
def gxo (g : Gr) (a b : Nat) : Gr × Nat := gnd (gnd (gnd (gnd g a b).1 a (gnd g a b).2).1 b (gnd g a b).2).1 (gnd (gnd g a b).1 a (gnd g a b).2).2 (gnd (gnd (gnd g a b).1 a (gnd g a b).2).1 b (gnd g a b).2).2
def gpi (g : Gr) (a b c : Nat) : Gr × Nat := gnd (gnd (giv (gnd g a b).1 a).1 (giv (gnd g a b).1 a).2 c).1 (gnd g a b).2 (gnd (giv (gnd g a b).1 a).1 (giv (gnd g a b).1 a).2 c).2
def ggate (kind : Nat) (g : Gr) (a b c : Nat) : Gr × Nat := match kind with
  | 0 => giv g a
  | 1 => giv (gnd g a b).1 (gnd g a b).2
  | 2 => gor g a b
  | 3 => gxo g a b
  | 4 => gnd g a b
  | 5 => giv (gor g a b).1 (gor g a b).2
  | _ => gpi g a b c
/-- what the arrays hold of one vertex -/
def eO (t : Nat × Nat × Nat) : Int32 := if t.1 = 0 then -4 else nI t.2.1
def eW (t : Nat × Nat × Nat) : Int32 := if t.1 = 2 then nI t.2.2 else -4
def EG (g : Gr) (F O W : Nat → Int32) : Prop := ∀ v, v < g.1 → F v = nI (g.2 v).1 ∧ O v = eO (g.2 v) ∧ W v = eW (g.2 v)
/-- parts are ahead of what has them -/
def wfG (g : Gr) : Prop := ∀ v, v < g.1 → (g.2 v).1 ≤ 2 ∧ ((g.2 v).1 ≠ 0 → (g.2 v).2.1 < v) ∧ ((g.2 v).1 = 2 → (g.2 v).2.2 < v)
/-- g2 goes on from g, by at most k vertices -/
def Ext (k : Nat) (g g2 : Gr) : Prop := g.1 ≤ g2.1 ∧ g2.1 ≤ g.1 + k ∧ ∀ v, v < g.1 → g2.2 v = g.2 v
theorem Ext.rf {k : Nat} {g : Gr} : Ext k g g := ⟨Nat.le_refl _, by omega, fun _ _ => rfl⟩
theorem Ext.tr {j k : Nat} {g g1 g2 : Gr} (h1 : Ext j g g1) (h2 : Ext k g1 g2) : Ext (j + k) g g2 := ⟨by have := h1.1; have := h2.1; omega, by have := h1.2.1; have := h2.2.1; omega, fun v hv => (h2.2.2 v (by have := h1.1; omega)).trans (h1.2.2 v hv)⟩
theorem gadd_ext (g : Gr) (t : Nat × Nat × Nat) : Ext 1 g (gadd g t) := ⟨by simp [gadd], by simp [gadd], fun v hv => by simp [gadd, show v ≠ g.1 by omega]⟩
theorem gget_ext (g : Gr) (p : Nat → Bool) (t : Nat × Nat × Nat) : Ext 1 g (gget g p t).1 := by
  unfold gget
  split
  · exact Ext.rf
  · exact gadd_ext g t
theorem gget_lt (g : Gr) (p : Nat → Bool) (t : Nat × Nat × Nat) : (gget g p t).2 < (gget g p t).1.1 := by
  unfold gget
  split
  · rename_i v h
    exact (gfind_spec h).1
  · simp [gadd]
theorem wf_gadd {g : Gr} {t : Nat × Nat × Nat} (h : wfG g) (h1 : t.1 ≤ 2) (h2 : t.1 ≠ 0 → t.2.1 < g.1) (h3 : t.1 = 2 → t.2.2 < g.1) : wfG (gadd g t) := by
  intro v hv
  by_cases e : v = g.1
  · subst e
    simp [gadd]
    exact ⟨h1, h2, h3⟩
  · have hv2 : v < g.1 := by simp [gadd] at hv; omega
    simp [gadd, e]
    exact h v hv2
theorem wf_gget {g : Gr} {p : Nat → Bool} {t : Nat × Nat × Nat} (h : wfG g) (h1 : t.1 ≤ 2) (h2 : t.1 ≠ 0 → t.2.1 < g.1) (h3 : t.1 = 2 → t.2.2 < g.1) : wfG (gget g p t).1 := by
  unfold gget
  split
  · exact h
  · exact wf_gadd h h1 h2 h3
/-- all that is said of a step: the graph goes on, stays in order, the answer is a vertex of it -/
def GSt (k : Nat) (g : Gr) (r : Gr × Nat) : Prop := Ext k g r.1 ∧ wfG r.1 ∧ r.2 < r.1.1
theorem gnd_stp {g : Gr} {a b : Nat} (h : wfG g) (ha : a < g.1) (hb : b < g.1) : GSt 1 g (gnd g a b) := ⟨gget_ext _ _ _, wf_gget h (by simp) (fun _ => ha) (fun _ => hb), gget_lt _ _ _⟩
theorem giv_stp {g : Gr} {a : Nat} (h : wfG g) (ha : a < g.1) : GSt 1 g (giv g a) := by
  unfold giv
  split
  · rename_i e
    refine ⟨Ext.rf, h, ?_⟩
    have := (h a ha).2.1 (by rw [e]; decide)
    show (g.2 a).2.1 < g.1
    omega
  · exact ⟨gget_ext _ _ _, wf_gget h (by simp) (fun _ => ha) (fun q => by simp at q), gget_lt _ _ _⟩
theorem GSt.lt {k : Nat} {g : Gr} {r : Gr × Nat} (h : GSt k g r) {a : Nat} (ha : a < g.1) : a < r.1.1 := Nat.lt_of_lt_of_le ha h.1.1
theorem GSt.tr {j k : Nat} {g : Gr} {r r2 : Gr × Nat} (h : GSt j g r) (h2 : GSt k r.1 r2) : GSt (j + k) g r2 := ⟨h.1.tr h2.1, h2.2.1, h2.2.2⟩
theorem GSt.up {j k : Nat} {g : Gr} {r : Gr × Nat} (h : GSt j g r) (hk : j ≤ k) : GSt k g r := ⟨⟨h.1.1, by have := h.1.2.1; omega, h.1.2.2⟩, h.2⟩
theorem gor_stp {g : Gr} {a b : Nat} (h : wfG g) (ha : a < g.1) (hb : b < g.1) : GSt 3 g (gor g a b) := by
  have s1 := giv_stp h ha
  have s2 := giv_stp s1.2.1 (s1.lt hb)
  have s3 := gnd_stp s2.2.1 (s2.lt s1.2.2) s2.2.2
  exact (s1.tr s2).tr s3
theorem gxo_stp {g : Gr} {a b : Nat} (h : wfG g) (ha : a < g.1) (hb : b < g.1) : GSt 4 g (gxo g a b) := by
  have s1 := gnd_stp h ha hb
  have s2 := gnd_stp s1.2.1 (s1.lt ha) s1.2.2
  have s3 := gnd_stp s2.2.1 (s2.lt (s1.lt hb)) (s2.lt s1.2.2)
  have s4 := gnd_stp s3.2.1 (s3.lt s2.2.2) s3.2.2
  exact ((s1.tr s2).tr s3).tr s4
theorem gpi_stp {g : Gr} {a b c : Nat} (h : wfG g) (ha : a < g.1) (hb : b < g.1) (hc : c < g.1) : GSt 4 g (gpi g a b c) := by
  have s1 := gnd_stp h ha hb
  have s2 := giv_stp s1.2.1 (s1.lt ha)
  have s3 := gnd_stp s2.2.1 s2.2.2 (s2.lt (s1.lt hc))
  have s4 := gnd_stp s3.2.1 (s3.lt (s2.lt s1.2.2)) s3.2.2
  exact ((s1.tr s2).tr s3).tr s4
theorem ggate_stp {kind : Nat} {g : Gr} {a b c : Nat} (h : wfG g) (ha : a < g.1) (hb : b < g.1) (hc : c < g.1) : GSt 4 g (ggate kind g a b c) := by
  match kind with
  | 0 => exact (giv_stp h ha).up (by decide)
  | 1 =>
    have s1 := gnd_stp h ha hb
    exact (s1.tr (giv_stp s1.2.1 s1.2.2)).up (by decide)
  | 2 => exact (gor_stp h ha hb).up (by decide)
  | 3 => exact gxo_stp h ha hb
  | 4 => exact (gnd_stp h ha hb).up (by decide)
  | 5 =>
    have s1 := gor_stp h ha hb
    exact (s1.tr (giv_stp s1.2.1 s1.2.2)).up (by decide)
  | n + 6 => exact gpi_stp h ha hb hc
