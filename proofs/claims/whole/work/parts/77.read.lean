/-! vertexOf, vertex, count -/
theorem X_vertexOf {N : Nd} {n m : Nat} {ou : Nat → Nat} {S : St} (hw : WfN N n m ou) (hP : PnC N n m ou S) (x : Int32) : f_X8_vertexOf x S = some (if inR x n = true then nI ((bld N n).2 x.toNatClampNeg) else -1, S) := by
  have hn := hw.1
  unfold f_X8_vertexOf j_X8_vertexOf_24
  rw [bi_e (c_hasNode hn hP.1.1 x)]
  cases hin : inR x n with
  | false => rw [if_pos (show b01 false = 0 from rfl), if_neg (by decide)]
  | true =>
    obtain ⟨a, ha, rfl⟩ := inR_t hin (by omega)
    rw [if_neg (show ¬ b01 true = 0 from by decide), if_pos rfl, gd_t (ix_nI (show a < 40 by omega) (by decide)), lt_, nI_clamp (show a < 2 ^ 31 by omega), (hP.1.2.2.2.1 a ha).2.2.2, bld_vo N ha]
theorem M_vertexOf {N : Nd} {n m : Nat} {ou : Nat → Nat} {T : St} (hw : WfN N n m ou) (hP : PnM N n m ou T) (x : Int32) : f_X9_vertexOf x T = some (if inR x n = true then nI ((bld N n).2 x.toNatClampNeg) else -1, T) := by
  have hn := hw.1
  unfold f_X9_vertexOf j_X9_vertexOf_18
  rw [bi_e (m_isNode hn hP.1.1 x)]
  cases hin : inR x n with
  | false => rw [if_pos (show b01 false = 0 from rfl), if_neg (by decide)]
  | true =>
    obtain ⟨a, ha, rfl⟩ := inR_t hin (by omega)
    rw [if_neg (show ¬ b01 true = 0 from by decide), if_pos rfl, gd_t (ix_nI (show a < 40 by omega) (by decide)), lt_, nI_clamp (show a < 2 ^ 31 by omega), hP.2.2.2.2.1 a ha]
theorem c_vhas {g : Gr} (hg : g.1 ≤ 160) {S : St} (h : S 1 0 6 = nI g.1) (x : Int32) : f_X7_has x S = some (b01 (inR x g.1), S) := by
  unfold f_X7_has j_X7_has_16 j_X7_has_17
  simp only [h, le_nI (show g.1 < 2 ^ 31 by omega), lt_0I, show bz 0 = true from by decide, show bz 1 = true from by decide, gd]
  by_cases h1 : x.toInt < 0
  · rw [if_pos h1, show inR x g.1 = false from decide_eq_false (by omega)]; rfl
  · rw [if_neg h1]
    by_cases h2 : (g.1 : Int) ≤ x.toInt
    · rw [if_pos h2, show inR x g.1 = false from decide_eq_false (by omega)]; rfl
    · rw [if_neg h2, show inR x g.1 = true from decide_eq_true (by omega)]; rfl
theorem m_isVertex {g : Gr} (hg : g.1 ≤ 160) {T : St} (h : T 0 0 11 = nI g.1) (x : Int32) : f_X9_isVertex x T = some (b01 (inR x g.1), T) := by
  unfold f_X9_isVertex
  rw [h, bi_e (f_in0 x (by omega) T)]
  simp only [bz_b01, gd]
/-- what vertex() tells of one -/
def vtl (g : Gr) (m : Nat) (ov : Nat → Nat) (v : Nat) (w : Int32) : Int32 := if w = 0 then nI (g.2 v).1 else if w = 1 then eO (g.2 v) else if w = 2 then eW (g.2 v) else if w = 3 then nI (UU g m ov v) else if w = 4 then b01 (rts g m ov v) else if w = 5 then b01 (lvs g m ov v) else -1
theorem b01_if (b : Bool) (S : St) : (if b01 b = 0 then some ((0 : Int32), S) else some ((1 : Int32), S)) = some (b01 b, S) := by cases b <;> rfl
theorem c_vertex {g : Gr} {m : Nat} {ov : Nat → Nat} {S : St} (hg : g.1 ≤ 160) (hc : CG g S) (hE : EM g m ov S) (x w : Int32) : f_X8_vertex x w S = some (if inR x g.1 = true then vtl g m ov x.toNatClampNeg w else -1, S) := by
  unfold f_X8_vertex j_X8_vertex_109 j_X8_vertex_127
  rw [bi_e (c_vhas hg hc.1 x)]
  cases hin : inR x g.1 with
  | false => rw [if_pos (show b01 false = 0 from rfl), if_neg (by decide)]
  | true =>
    obtain ⟨a, ha, rfl⟩ := inR_t hin (by omega)
    obtain ⟨e1, e2, e3⟩ := hc.2 a ha
    obtain ⟨e4, e5, e6⟩ := hE a ha
    have hix := ix_nI (show a < 160 by omega) (by decide)
    rw [if_neg (show ¬ b01 true = 0 from by decide), if_pos rfl]
    simp only [hix, gd, lt_, nI_clamp (show a < 2 ^ 31 by omega), e1, e2, e3, e4, e5, e6, b01_if]
    unfold vtl
    by_cases h0 : w = 0
    · rw [if_pos h0, if_pos h0]
    · rw [if_neg h0, if_neg h0]
      by_cases h1 : w = 1
      · rw [if_pos h1, if_pos h1]
      · rw [if_neg h1, if_neg h1]
        by_cases h2 : w = 2
        · rw [if_pos h2, if_pos h2]
        · rw [if_neg h2, if_neg h2]
          by_cases h3 : w = 3
          · rw [if_pos h3, if_pos h3]
          · rw [if_neg h3, if_neg h3]
            by_cases h4 : w = 4
            · rw [if_pos h4, if_pos h4]
            · rw [if_neg h4, if_neg h4]
              by_cases h5 : w = 5
              · rw [if_pos h5, if_pos h5]
              · rw [if_neg h5, if_neg h5]
theorem m_told {g : Gr} {m : Nat} {ov : Nat → Nat} {T : St} (hg : g.1 ≤ 160) (hc : MG g T) (hE : EM g m ov T) {a : Nat} (ha : a < g.1) {w : Int32} (hw : 0 ≤ w.toInt ∧ w.toInt ≤ 5) : f_X9_told (nI a) w T = some (vtl g m ov a w, T) := by
  unfold f_X9_told j_X9_told_78 j_X9_told_93
  obtain ⟨e1, e2, e3⟩ := hc.2 a ha
  obtain ⟨e4, e5, e6⟩ := hE a ha
  have hix := ix_nI (show a < 200 by omega) (by decide)
  simp only [hix, gd, lt_, nI_clamp (show a < 2 ^ 31 by omega), e1, e2, e3, e4, e5, e6, b01_if]
  unfold vtl
  by_cases h0 : w = 0
  · rw [if_pos h0, if_pos h0]
  · rw [if_neg h0, if_neg h0]
    by_cases h1 : w = 1
    · rw [if_pos h1, if_pos h1]
    · rw [if_neg h1, if_neg h1]
      by_cases h2 : w = 2
      · rw [if_pos h2, if_pos h2]
      · rw [if_neg h2, if_neg h2]
        by_cases h3 : w = 3
        · rw [if_pos h3, if_pos h3]
        · rw [if_neg h3, if_neg h3]
          by_cases h4 : w = 4
          · rw [if_pos h4, if_pos h4]
          · rw [if_neg h4, if_neg h4]
            have h5 : w = 5 := by
              have ne : ∀ k : Nat, k < 5 → ¬ w = nI k → w.toInt ≠ k := fun k hk h e => h (i32_eq (by rw [e, nI_toInt (by omega)]))
              have := ne 0 (by decide) h0
              have := ne 1 (by decide) h1
              have := ne 2 (by decide) h2
              have := ne 3 (by decide) h3
              have := ne 4 (by decide) h4
              exact i32_eq (by rw [show (5 : Int32).toInt = 5 from by decide]; omega)
            rw [if_pos h5]
theorem vtl_out {g : Gr} {m : Nat} {ov : Nat → Nat} {v : Nat} {w : Int32} (h : ¬ (0 ≤ w.toInt ∧ w.toInt ≤ 5)) : vtl g m ov v w = -1 := by
  unfold vtl
  have ne : ∀ k : Int32, 0 ≤ k.toInt ∧ k.toInt ≤ 5 → ¬ w = k := fun k hk e => h (by rw [e]; exact hk)
  rw [if_neg (ne 0 (by decide)), if_neg (ne 1 (by decide)), if_neg (ne 2 (by decide)), if_neg (ne 3 (by decide)), if_neg (ne 4 (by decide)), if_neg (ne 5 (by decide))]
theorem m_vertex {g : Gr} {m : Nat} {ov : Nat → Nat} {T : St} (hg : g.1 ≤ 160) (hc : MG g T) (hE : EM g m ov T) (x w : Int32) : f_X9_vertex x w T = some (if inR x g.1 = true then vtl g m ov x.toNatClampNeg w else -1, T) := by
  unfold f_X9_vertex j_X9_vertex_29 j_X9_vertex_30
  rw [bi_e (m_isVertex hg hc.1 x)]
  cases hin : inR x g.1 with
  | false => rw [if_pos (show b01 false = 0 from rfl), if_neg (by decide)]
  | true =>
    obtain ⟨a, ha, rfl⟩ := inR_t hin (by omega)
    rw [if_neg (show ¬ b01 true = 0 from by decide), if_pos rfl, bi_e (f_in _ _ _ _), i64_of, show (0 : Int64).toInt = 0 from by decide, show (5 : Int64).toInt = 5 from by decide, nI_clamp (show a < 2 ^ 31 by omega)]
    by_cases h : 0 ≤ w.toInt ∧ w.toInt ≤ 5
    · rw [decide_eq_true h, if_neg (show ¬ b01 true = 0 from by decide), bi_e (m_told hg hc hE ha h)]
    · rw [decide_eq_false h, if_pos (show b01 false = 0 from rfl), vtl_out h]
/-- counting loops -/
theorem c_ctl {c : Nat} (hc : c ≤ 20) {th : Nat → Bool} {S : St} (h1 : S 4 0 1 = nI c) (h6 : ∀ d, d < c → S 8 d 6 = b01 (th d)) : ∀ (f x : Nat), x ≤ c → c - x < f → l_X3_countThere_4 f S (nI (ctB th x)) (nI x) = some (nI (ctB th c), S) := by
  intro f
  induction f with
  | zero => intro x _ h; exact absurd h (by omega)
  | succ f ih =>
    intro x hx hf
    rw [show l_X3_countThere_4 (f + 1) = b_X3_countThere_4 (l_X3_countThere_4 f) from rfl]
    unfold b_X3_countThere_4 j_X3_countThere_27
    rw [h1]
    by_cases e : x = c
    · subst e
      rw [if_pos (nI_le (Nat.le_refl _) (by omega))]
    · rw [if_neg (nI_ge (show x < c by omega) (by omega)), gd_t (ix_nI (show x < 20 by omega) (by decide)), nI_clamp (show x < 2 ^ 31 by omega), h6 x (by omega)]
      have ih := ih (x + 1) (by omega) (by omega)
      rw [ctB] at ih
      cases q : th x with
      | true =>
        rw [q] at ih
        rw [if_neg (show ¬ b01 true = 0 from by decide), lt_, lt_, nI_1, nI_1]
        exact ih
      | false =>
        rw [q] at ih
        rw [if_pos (show b01 false = 0 from rfl), lt_, nI_1]
        exact ih
theorem m_ct6 {c : Nat} (hc : c ≤ 20) {th : Nat → Bool} {T : St} (h1 : T 0 0 22 = nI c) (h6 : ∀ d, d < c → T 16 0 d = b01 (th d)) : ∀ (f x : Nat), x ≤ c → c - x < f → l_X9_count_156 f T (nI (ctB th x)) (nI x) = some (nI (ctB th c), T) := by
  intro f
  induction f with
  | zero => intro x _ h; exact absurd h (by omega)
  | succ f ih =>
    intro x hx hf
    rw [show l_X9_count_156 (f + 1) = b_X9_count_156 (l_X9_count_156 f) from rfl]
    unfold b_X9_count_156 j_X9_count_179
    rw [h1]
    by_cases e : x = c
    · subst e
      rw [if_pos (nI_le (Nat.le_refl _) (by omega))]
    · rw [if_neg (nI_ge (show x < c by omega) (by omega)), gd_t (ix_nI (show x < 20 by omega) (by decide)), lt_, nI_clamp (show x < 2 ^ 31 by omega), h6 x (by omega)]
      have ih := ih (x + 1) (by omega) (by omega)
      rw [ctB] at ih
      cases q : th x with
      | true =>
        rw [q] at ih
        rw [if_neg (show ¬ b01 true = 0 from by decide), lt_, lt_, nI_1, nI_1]
        exact ih
      | false =>
        rw [q] at ih
        rw [if_pos (show b01 false = 0 from rfl), lt_, lt_, nI_1, show nI (ctB th x) + 0 = nI (ctB th x) from by rw [show (0 : Int32) = nI 0 from rfl, nI_add]; rfl]
        exact ih
theorem m_ct1 {N : Nd} {n : Nat} (hn : n ≤ 40) (hN : wfN N n) {T : St} (h : NM N n T) : ∀ (f x : Nat), x ≤ n → n - x < f → l_X9_count_59 f T (nI (ctB (isInp N) x)) (nI x) = some (nI (ctB (isInp N) n), T) := by
  intro f
  induction f with
  | zero => intro x _ h; exact absurd h (by omega)
  | succ f ih =>
    intro x hx hf
    rw [show l_X9_count_59 (f + 1) = b_X9_count_59 (l_X9_count_59 f) from rfl]
    unfold b_X9_count_59 j_X9_count_82
    rw [h.1]
    by_cases e : x = n
    · subst e
      rw [if_pos (nI_le (Nat.le_refl _) (by omega))]
    · rw [if_neg (nI_ge (show x < n by omega) (by omega)), gd_t (ix_nI (show x < 40 by omega) (by decide)), lt_, nI_clamp (show x < 2 ^ 31 by omega), (h.2 x (by omega)).1]
      have ih := ih (x + 1) (by omega) (by omega)
      rw [ctB] at ih
      have hk := (hN x (by omega)).1
      by_cases q : (N x).1 = 7
      · have e1 : isInp N x = true := by simp [isInp, q]
        rw [e1] at ih
        rw [if_pos q, if_neg (show ¬ (0 : Int32) ≤ -1 from by decide), lt_, lt_, nI_1, nI_1]
        exact ih
      · have e1 : isInp N x = false := by simp [isInp, q]
        rw [e1] at ih
        rw [if_neg q, if_pos (nI_pos' (by omega)), lt_, lt_, nI_1, show nI (ctB (isInp N) x) + 0 = nI (ctB (isInp N) x) from by rw [show (0 : Int32) = nI 0 from rfl, nI_add]; rfl]
        exact ih
theorem m_ct4 {n : Nat} (hn : n ≤ 160) {p : Nat → Bool} {T : St} {w : Int32} (h : T 0 0 11 = nI n) (hp : ∀ v, v < n → T (if w = 4 then 13 else 14) 0 v = b01 (p v)) : ∀ (f x : Nat), x ≤ n → n - x < f → l_X9_count_104 f T w (nI (ctB p x)) (nI x) = some (nI (ctB p n), T) := by
  intro f
  induction f with
  | zero => intro x _ h; exact absurd h (by omega)
  | succ f ih =>
    intro x hx hf
    rw [show l_X9_count_104 (f + 1) = b_X9_count_104 (l_X9_count_104 f) from rfl]
    unfold b_X9_count_104 j_X9_count_143 j_X9_count_139 j_X9_count_144
    rw [h]
    by_cases e : x = n
    · subst e
      rw [if_pos (nI_le (Nat.le_refl _) (by omega))]
    · have hv := hp x (by omega)
      have ih := ih (x + 1) (by omega) (by omega)
      rw [ctB] at ih
      have fin : (if b01 (p x) = 0 then lt_ (nI (ctB p x) + 0) (fun v_17 => lt_ (nI x + 1) (fun v_18 => l_X9_count_104 f T w v_17 v_18)) else lt_ (nI (ctB p x) + 1) (fun v_17 => lt_ (nI x + 1) (fun v_18 => l_X9_count_104 f T w v_17 v_18))) = some (nI (ctB p n), T) := by
        cases q : p x with
        | true =>
          rw [q] at ih
          rw [if_neg (show ¬ b01 true = 0 from by decide), lt_, lt_, nI_1, nI_1]
          exact ih
        | false =>
          rw [q] at ih
          rw [if_pos (show b01 false = 0 from rfl), lt_, lt_, nI_1, show nI (ctB p x) + 0 = nI (ctB p x) from by rw [show (0 : Int32) = nI 0 from rfl, nI_add]; rfl]
          exact ih
      rw [if_neg (nI_ge (show x < n by omega) (by omega))]
      by_cases z : w = 4
      · rw [if_pos z] at hv
        rw [if_pos z, gd_t (ix_nI (show x < 200 by omega) (by decide)), lt_, nI_clamp (show x < 2 ^ 31 by omega), hv]
        exact fin
      · rw [if_neg z] at hv
        rw [if_neg z, gd_t (ix_nI (show x < 200 by omega) (by decide)), lt_, nI_clamp (show x < 2 ^ 31 by omega), hv]
        exact fin
